/-! part 20: ways that part, calls, and the whole run -/
def bm_ent : Nat → List BV → BL
  | 0, _ => []
  | n + 1, [] => none :: bm_ent n []
  | n + 1, .inr (.inl z) :: as => some (.inr (.inl z)) :: (match n with
    | 0 => []
    | n + 1 => none :: bm_ent n as)
  | n + 1, a :: as => some a :: bm_ent n as
def bm_ret (i : Instr) (ns : List Nat) (st : List BV) (Γ : GM) : Option (Option BV) := match i, st with
  | .ireturn, [.inl a] => am_g (ns.getD 0 0 = 0 ∨ isB Γ a = true) (some (some (.inl a)))
  | .lreturn, [.inr (.inl z)] => some (some (.inr (.inl z)))
  | .return_, [] => some none
  | _, _ => none
def bm_rcv (mx : Nat) (ns : List Nat) (st : List BV) (h : BH) : Bool := decide (bm_cats (st.take (ns.getD 1 0)) ≤ mx) && decide (bm_cats (st.drop (ns.getD 1 0)) ≤ 8) && decide (ns.getD 1 0 ≤ st.length) && (decide (ns.getD 2 0 = 0) || (match st[ns.getD 1 0 - 1]? with
  | some (.inr (.inr (some a))) => decide ((h.2.2.1 a).1 = ns.getD 3 0) && decide (a < h.1)
  | _ => false))
def fk (o : Option (GM × AI)) (t : Nat) : List (GM × Nat) := match o with
  | some q => [(q.1, t)]
  | none => []
def fEq (Γ : GM) (a : AI) (b : Int) : Option (GM × AI) := match rfLe Γ a b with
  | some q => rfGe q.1 q.2 b
  | none => none
def bbr (c : ClassFile.Cond) (Γ : GM) (a : AI) (b : Int) (t k : Nat) : List (GM × Nat) := match c with
  | .eq => fk (fEq Γ a b) t ++ (fk (rfLe Γ a (b - 1)) (k + 1) ++ fk (rfGe Γ a (b + 1)) (k + 1))
  | .ne => fk (fEq Γ a b) (k + 1) ++ (fk (rfLe Γ a (b - 1)) t ++ fk (rfGe Γ a (b + 1)) t)
  | .lt => fk (rfLe Γ a (b - 1)) t ++ fk (rfGe Γ a b) (k + 1)
  | .ge => fk (rfLe Γ a (b - 1)) (k + 1) ++ fk (rfGe Γ a b) t
  | .gt => fk (rfGe Γ a (b + 1)) t ++ fk (rfLe Γ a b) (k + 1)
  | .le => fk (rfGe Γ a (b + 1)) (k + 1) ++ fk (rfLe Γ a b) t
def flipC : ClassFile.Cond → ClassFile.Cond
  | .eq => .eq
  | .ne => .ne
  | .lt => .gt
  | .ge => .le
  | .gt => .lt
  | .le => .ge
def bsw (d : Nat) : List (Int × Nat) → GM → AI → List (GM × Nat)
  | [], Γ, _ => [(Γ, d)]
  | (v, t) :: r, Γ, a => fk (fEq Γ a v) t ++ ((match rfLe Γ a (v - 1) with
    | some q => bsw d r q.1 q.2
    | none => []) ++ (match rfGe Γ a (v + 1) with
    | some q => bsw d r q.1 q.2
    | none => []))
def abr (i : Instr) (ns : List Nat) (k : Nat) (st : List BV) (Γ : GM) : Option (List (GM × Nat) × List BV) := match i with
  | .ifCond c _ => match st with
    | .inl a :: st => some (bbr c Γ a 0 (ns.getD 0 0) k, st)
    | _ => none
  | .if_icmp c _ => match st with
    | .inl b :: .inl a :: st => match kc b with
      | some y => some (bbr c Γ a y (ns.getD 0 0) k, st)
      | none => match kc a with
        | some x => some (bbr (flipC c) Γ b x (ns.getD 0 0) k, st)
        | none => some ([(Γ, ns.getD 0 0), (Γ, k + 1)], st)
    | _ => none
  | .tableswitch _ lo _ _ => match st with
    | .inl x :: st => some (bsw (ns.getD 0 0) (am_zip lo (ns.drop 1)) Γ x, st)
    | _ => none
  | .lookupswitch _ ps => match st with
    | .inl x :: st => some (bsw (ns.getD 0 0) (am_zip2 ps.toList (ns.drop 1)) Γ x, st)
    | _ => none
  | _ => none
def allS {α β : Type} (f : α → Option (List β)) : List α → Option (List β)
  | [] => some []
  | a :: l => match f a with
    | none => none
    | some r => match allS f l with
      | none => none
      | some s => some (r ++ s)
abbrev OUT : Type := GM × Option BV × BH
def sev : Nat → Nat → Nat → Nat → BL → List BV → BH → GM → Option (List OUT)
  | 0, _, _, _, _, _, _, _ => none
  | n + 1, d, m, k, ls, st, h, Γ => match (codeT m)[k]? with
    | none => none
    | some (i, z, ns) =>
      if am_kind i ns = 0 then (match abr i ns k st Γ with
        | some (fs, st') => allS (fun q => sev n d m q.2 ls st' h q.1) fs
        | none => match astp i z ns k ls st h Γ with
          | none => none
          | some (k', ls', st', h') => sev n d m k' ls' st' h' Γ)
      else if am_kind i ns = 1 then (match d with
        | 0 => none
        | d + 1 => match bm_rcv (mX (ns.getD 0 0)) ns st h with
          | false => none
          | true => match sev n d (ns.getD 0 0) 0 (bm_ent (mX (ns.getD 0 0)) (st.take (ns.getD 1 0)).reverse) [] h Γ with
            | none => none
            | some outs => allS (fun o => if h.1 ≤ o.2.2.1 ∧ h.2.1 ≤ o.2.2.2.1 then sev n (d + 1) m (k + 1) ls (o.2.1.toList ++ st.drop (ns.getD 1 0)) o.2.2 o.1 else none) outs)
      else (match bm_ret i ns st Γ with
        | none => none
        | some v => some [(Γ, v, h)])
theorem allS_r {α β : Type} {f : α → Option (List β)} : ∀ {l : List α} {out : List β}, allS f l = some out → ∀ a ∈ l, ∃ r, f a = some r ∧ ∀ b ∈ r, b ∈ out
  | [], out, h, a, ha => by cases ha
  | x :: l, out, h, a, ha => by
    unfold allS at h
    split at h
    · cases h
    · rename_i r hr
      split at h
      · cases h
      · rename_i s hs
        cases h
        rcases List.mem_cons.mp ha with rfl | ha
        · exact ⟨r, hr, fun b hb => List.mem_append_left _ hb⟩
        · obtain ⟨r', h1, h2⟩ := allS_r hs a ha
          exact ⟨r', h1, fun b hb => List.mem_append_right _ (h2 b hb)⟩
section
variable {ρ : Nat → Int}
theorem ent_r : ∀ (n : Nat) {s : List BV} {t : List AV}, rZ (rV ρ) s t → rZ (rO ρ) (bm_ent n s) (am_ent n t)
  | 0, s, t, h => by
    rw [bm_ent, am_ent]
    exact trivial
  | n + 1, [], t, h => by
    rw [rZ_nil h, bm_ent, am_ent]
    exact ⟨trivial, ent_r n (s := []) (t := []) trivial⟩
  | n + 1, .inl a :: s, t, h => by
    obtain ⟨z, t', rfl, h1, h2⟩ := rS_i h
    rw [bm_ent, am_ent]
    · exact ⟨h1, ent_r n h2⟩
    · intro z9 e; cases e
    · intro z9 e; cases e
  | n + 1, .inr (.inr a) :: s, t, h => by
    obtain ⟨t', rfl, h2⟩ := rS_r h
    rw [bm_ent, am_ent]
    · exact ⟨rfl, ent_r n h2⟩
    · intro z9 e; cases e
    · intro z9 e; cases e
  | 1, .inr (.inl a) :: s, t, h => by
    obtain ⟨t', rfl, h2⟩ := rS_r h
    rw [bm_ent, am_ent]
    exact ⟨rfl, trivial⟩
  | n + 2, .inr (.inl a) :: s, t, h => by
    obtain ⟨t', rfl, h2⟩ := rS_r h
    rw [bm_ent, am_ent]
    exact ⟨rfl, trivial, ent_r n h2⟩
theorem ret_r {i : Instr} {ns : List Nat} {s : List BV} {t : List AV} {Γ : GM} {v : Option BV} (hG : rG ρ Γ) (hs : rZ (rV ρ) s t) (h : bm_ret i ns s Γ = some v) : ∃ w, am_ret i ns t = some w ∧ rO ρ v w := by
  unfold bm_ret at h
  split at h
  · rename_i a
    obtain ⟨h1, h2⟩ := am_g_some h
    cases h2
    obtain ⟨z, t1, rfl, hz, hs1⟩ := rS_i hs
    rw [rZ_nil hs1]
    refine ⟨some (.inl z), ?_, hz⟩
    unfold am_ret am_g
    dsimp only
    rw [if_pos]
    rcases h1 with h1 | h1
    · exact Or.inl h1
    · have := isB_r hG h1 hz
      omega
  · cases h
    obtain ⟨t1, rfl, hs1⟩ := rS_r hs
    rw [rZ_nil hs1]
    exact ⟨_, rfl, rfl⟩
  · cases h
    rw [rZ_nil hs]
    exact ⟨_, rfl, trivial⟩
  · cases h
theorem rcv_r {mx : Nat} {ns : List Nat} {s : List BV} {t : List AV} {h : BH} {g : AH} (hs : rZ (rV ρ) s t) (hh : rH ρ h g) (hr : bm_rcv mx ns s h = true) : am_rcv mx ns t g = true := by
  unfold bm_rcv at hr
  unfold am_rcv
  rw [cats_r (rZ_take hs), cats_r (rZ_drop hs), rZ_len hs] at hr
  simp only [Bool.and_eq_true, Bool.or_eq_true, decide_eq_true_eq] at hr ⊢
  refine ⟨hr.1, hr.2.imp (fun z => z) (fun z => ?_)⟩
  revert z
  split
  · rename_i a ha
    obtain ⟨b, h1, h2⟩ := rZ_get hs ha
    match b, h2 with
    | .inr b, h2 =>
      cases h2
      rw [h1]
      simp only [Bool.and_eq_true, decide_eq_true_eq]
      rintro ⟨z1, z2⟩
      rw [← hh.2.2.1 _ (Or.inl z2), ← hh.1]
      exact ⟨z1, z2⟩
  · intro z; cases z
theorem fk_m {o : Option (GM × AI)} {t : Nat} {q : GM × AI} (h : o = some q) : (q.1, t) ∈ fk o t := by rw [h]; exact List.mem_singleton.mpr rfl
theorem fEq_r {Γ : GM} {a : AI} {z : Int} (hG : rG ρ Γ) (hr : rI ρ a z) : ∃ q, fEq Γ a z = some q ∧ rG ρ q.1 ∧ rI ρ q.2 z := by
  obtain ⟨q, h1, h2, h3⟩ := rfLe_r hG hr (Int.le_refl z)
  obtain ⟨q', h4, h5, h6⟩ := rfGe_r h2 h3 (Int.le_refl z)
  exact ⟨q', by unfold fEq; rw [h1]; exact h4, h5, h6⟩
theorem bbr_r {c : ClassFile.Cond} {Γ : GM} {a : AI} {x b : Int} {t k : Nat} (hG : rG ρ Γ) (hr : rI ρ a x) : ∃ q ∈ bbr c Γ a b t k, rG ρ q.1 ∧ ∀ ls st h, am_br c x b t k ls st h = some (q.2, ls, st, h) := by
  have hlt : ∀ b' t', x ≤ b' → ∃ q ∈ fk (rfLe Γ a b') t', rG ρ q.1 ∧ q.2 = t' := fun b' t' hz => by
    obtain ⟨q, h1, h2, -⟩ := rfLe_r hG hr hz
    exact ⟨_, fk_m h1, h2, rfl⟩
  have hgt : ∀ b' t', b' ≤ x → ∃ q ∈ fk (rfGe Γ a b') t', rG ρ q.1 ∧ q.2 = t' := fun b' t' hz => by
    obtain ⟨q, h1, h2, -⟩ := rfGe_r hG hr hz
    exact ⟨_, fk_m h1, h2, rfl⟩
  have heq : ∀ t', x = b → ∃ q ∈ fk (fEq Γ a b) t', rG ρ q.1 ∧ q.2 = t' := fun t' hz => by
    subst hz
    obtain ⟨q, h1, h2, -⟩ := fEq_r hG hr
    exact ⟨_, fk_m h1, h2, rfl⟩
  cases c <;> simp only [bbr, am_br, am_if]
  · rcases Int.lt_trichotomy x b with h | h | h
    · obtain ⟨q, q1, q2, q3⟩ := hlt (b - 1) (k + 1) (by omega)
      exact ⟨q, List.mem_append_right _ (List.mem_append_left _ q1), q2, fun ls st h9 => by rw [if_neg (by omega), q3]⟩
    · obtain ⟨q, q1, q2, q3⟩ := heq t h
      exact ⟨q, List.mem_append_left _ q1, q2, fun ls st h9 => by rw [if_pos (by omega), q3]⟩
    · obtain ⟨q, q1, q2, q3⟩ := hgt (b + 1) (k + 1) (by omega)
      exact ⟨q, List.mem_append_right _ (List.mem_append_right _ q1), q2, fun ls st h9 => by rw [if_neg (by omega), q3]⟩
  · rcases Int.lt_trichotomy x b with h | h | h
    · obtain ⟨q, q1, q2, q3⟩ := hlt (b - 1) t (by omega)
      exact ⟨q, List.mem_append_right _ (List.mem_append_left _ q1), q2, fun ls st h9 => by rw [if_neg (by omega), q3]⟩
    · obtain ⟨q, q1, q2, q3⟩ := heq (k + 1) h
      exact ⟨q, List.mem_append_left _ q1, q2, fun ls st h9 => by rw [if_pos (by omega), q3]⟩
    · obtain ⟨q, q1, q2, q3⟩ := hgt (b + 1) t (by omega)
      exact ⟨q, List.mem_append_right _ (List.mem_append_right _ q1), q2, fun ls st h9 => by rw [if_neg (by omega), q3]⟩
  · by_cases h : x < b
    · obtain ⟨q, q1, q2, q3⟩ := hlt (b - 1) t (by omega)
      exact ⟨q, List.mem_append_left _ q1, q2, fun ls st h9 => by rw [if_pos (by omega), q3]⟩
    · obtain ⟨q, q1, q2, q3⟩ := hgt b (k + 1) (by omega)
      exact ⟨q, List.mem_append_right _ q1, q2, fun ls st h9 => by rw [if_neg (by omega), q3]⟩
  · by_cases h : x < b
    · obtain ⟨q, q1, q2, q3⟩ := hlt (b - 1) (k + 1) (by omega)
      exact ⟨q, List.mem_append_left _ q1, q2, fun ls st h9 => by rw [if_pos (by omega), q3]⟩
    · obtain ⟨q, q1, q2, q3⟩ := hgt b t (by omega)
      exact ⟨q, List.mem_append_right _ q1, q2, fun ls st h9 => by rw [if_neg (by omega), q3]⟩
  · by_cases h : b < x
    · obtain ⟨q, q1, q2, q3⟩ := hgt (b + 1) t (by omega)
      exact ⟨q, List.mem_append_left _ q1, q2, fun ls st h9 => by rw [if_pos (by omega), q3]⟩
    · obtain ⟨q, q1, q2, q3⟩ := hlt b (k + 1) (by omega)
      exact ⟨q, List.mem_append_right _ q1, q2, fun ls st h9 => by rw [if_neg (by omega), q3]⟩
  · by_cases h : b < x
    · obtain ⟨q, q1, q2, q3⟩ := hgt (b + 1) (k + 1) (by omega)
      exact ⟨q, List.mem_append_left _ q1, q2, fun ls st h9 => by rw [if_pos (by omega), q3]⟩
    · obtain ⟨q, q1, q2, q3⟩ := hlt b t (by omega)
      exact ⟨q, List.mem_append_right _ q1, q2, fun ls st h9 => by rw [if_neg (by omega), q3]⟩
theorem br_flip {c : ClassFile.Cond} {a b : Int} {t k : Nat} {ls : AL} {st : List AV} {h : AH} : am_br (flipC c) b a t k ls st h = am_br c a b t k ls st h := by
  cases c <;> simp only [flipC, am_br, am_if]
  · split
    · rw [if_pos (by omega)]
    · rw [if_neg (by omega)]
  · split
    · rw [if_pos (by omega)]
    · rw [if_neg (by omega)]
theorem br_two {c : ClassFile.Cond} {a b : Int} {t k : Nat} : ∃ q ∈ [t, k + 1], ∀ (ls : AL) (st : List AV) (h : AH), am_br c a b t k ls st h = some (q, ls, st, h) := by
  have h1 : t ∈ [t, k + 1] := List.mem_cons_self
  have h2 : k + 1 ∈ [t, k + 1] := List.mem_cons_of_mem _ List.mem_cons_self
  cases c <;> simp only [am_br, am_if]
  · by_cases h : a = b
    · exact ⟨_, h1, fun _ _ _ => if_pos h⟩
    · exact ⟨_, h2, fun _ _ _ => if_neg h⟩
  · by_cases h : a = b
    · exact ⟨_, h2, fun _ _ _ => if_pos h⟩
    · exact ⟨_, h1, fun _ _ _ => if_neg h⟩
  · by_cases h : a < b
    · exact ⟨_, h1, fun _ _ _ => if_pos h⟩
    · exact ⟨_, h2, fun _ _ _ => if_neg h⟩
  · by_cases h : a < b
    · exact ⟨_, h2, fun _ _ _ => if_pos h⟩
    · exact ⟨_, h1, fun _ _ _ => if_neg h⟩
  · by_cases h : b < a
    · exact ⟨_, h1, fun _ _ _ => if_pos h⟩
    · exact ⟨_, h2, fun _ _ _ => if_neg h⟩
  · by_cases h : b < a
    · exact ⟨_, h2, fun _ _ _ => if_pos h⟩
    · exact ⟨_, h1, fun _ _ _ => if_neg h⟩
theorem bsw_r {d : Nat} {x : Int} : ∀ (r : List (Int × Nat)) {Γ : GM} {a : AI}, rG ρ Γ → rI ρ a x → ∃ q ∈ bsw d r Γ a, rG ρ q.1 ∧ ∀ ls st h, am_sw x ls st h d r = some (q.2, ls, st, h)
  | [], Γ, a, hG, hr => ⟨_, List.mem_singleton.mpr rfl, hG, fun _ _ _ => rfl⟩
  | (v, t) :: r, Γ, a, hG, hr => by
    rw [bsw]
    rcases Int.lt_trichotomy x v with h | h | h
    · obtain ⟨q, h1, h2, h3⟩ := rfLe_r hG hr (show x ≤ v - 1 by omega)
      rw [h1]
      obtain ⟨q', h4, h5, h6⟩ := bsw_r r h2 h3
      refine ⟨q', List.mem_append_right _ (List.mem_append_left _ h4), h5, fun ls st h9 => ?_⟩
      rw [am_sw]
      unfold am_if
      rw [if_neg (by omega)]
      exact h6 ls st h9
    · subst h
      obtain ⟨q, h1, h2, -⟩ := fEq_r hG hr
      refine ⟨_, List.mem_append_left _ (fk_m h1), h2, fun ls st h9 => ?_⟩
      rw [am_sw]
      unfold am_if
      rw [if_pos rfl]
    · obtain ⟨q, h1, h2, h3⟩ := rfGe_r hG hr (show v + 1 ≤ x by omega)
      rw [h1]
      obtain ⟨q', h4, h5, h6⟩ := bsw_r r h2 h3
      refine ⟨q', List.mem_append_right _ (List.mem_append_right _ h4), h5, fun ls st h9 => ?_⟩
      rw [am_sw]
      unfold am_if
      rw [if_neg (by omega)]
      exact h6 ls st h9
theorem abr_r {i : Instr} {z : Int} {ns : List Nat} {k : Nat} {s : List BV} {t : List AV} {Γ : GM} {fs : List (GM × Nat)} {s' : List BV} (hs : rZ (rV ρ) s t) (hG : rG ρ Γ) (h : abr i ns k s Γ = some (fs, s')) : ∃ q ∈ fs, rG ρ q.1 ∧ ∃ t', rZ (rV ρ) s' t' ∧ ∀ ls g, stp i z ns k ls t g = some (q.2, ls, t', g) := by
  unfold abr at h
  split at h
  · split at h
    · cases h
      obtain ⟨x, t1, rfl, hx, hs1⟩ := rS_i hs
      obtain ⟨q, q1, q2, q3⟩ := bbr_r (b := 0) hG hx
      exact ⟨q, q1, q2, t1, hs1, fun ls g => q3 ls t1 g⟩
    · cases h
  · rename_i cc off
    split at h
    · obtain ⟨y, t1, rfl, hy, hs1⟩ := rS_i hs
      obtain ⟨x, t2, rfl, hx, hs2⟩ := rS_i hs1
      split at h
      · rename_i y' hy'
        cases h
        have := kc_r hy' hy
        subst this
        obtain ⟨q, q1, q2, q3⟩ := bbr_r (b := y) hG hx
        exact ⟨q, q1, q2, t2, hs2, fun ls g => q3 ls t2 g⟩
      · split at h
        · rename_i x' hx'
          cases h
          have := kc_r hx' hx
          subst this
          obtain ⟨q, q1, q2, q3⟩ := bbr_r (b := x) hG hy
          exact ⟨q, q1, q2, t2, hs2, fun ls g => br_flip.symm.trans (q3 ls t2 g)⟩
        · cases h
          obtain ⟨q, q1, q2⟩ := br_two (c := cc) (a := x) (b := y) (t := ns.getD 0 0) (k := k)
          refine ⟨(Γ, q), ?_, hG, t2, hs2, fun ls g => q2 ls t2 g⟩
          simp only [List.mem_cons, List.not_mem_nil, or_false] at q1
          rcases q1 with rfl | rfl
          · exact List.mem_cons_self
          · exact List.mem_cons_of_mem _ List.mem_cons_self
    · cases h
  · split at h
    · cases h
      obtain ⟨x, t1, rfl, hx, hs1⟩ := rS_i hs
      obtain ⟨q, q1, q2, q3⟩ := bsw_r (d := ns.getD 0 0) _ hG hx
      exact ⟨q, q1, q2, t1, hs1, fun ls g => q3 ls t1 g⟩
    · cases h
  · split at h
    · cases h
      obtain ⟨x, t1, rfl, hx, hs1⟩ := rS_i hs
      obtain ⟨q, q1, q2, q3⟩ := bsw_r (d := ns.getD 0 0) _ hG hx
      exact ⟨q, q1, q2, t1, hs1, fun ls g => q3 ls t1 g⟩
    · cases h
  · cases h
theorem sev_r : ∀ (n d m k : Nat) (l : BL) (s : List BV) (h : BH) (Γ : GM) (outs : List OUT), sev n d m k l s h Γ = some outs → ∀ (ls : AL) (st : List AV) (g : AH), rG ρ Γ → rZ (rO ρ) l ls → rZ (rV ρ) s st → rH ρ h g → wp codeT mX d m k ls st g (fun v g' => ∃ o ∈ outs, rG ρ o.1 ∧ rO ρ o.2.1 v ∧ rH ρ o.2.2 g') := by
  intro n
  induction n with
  | zero => intro d m k l s h Γ outs e; cases e
  | succ n ih =>
    intro d m k l s h Γ outs e ls st g hG hl hs hh
    rw [sev] at e
    split at e
    · cases e
    · rename_i i z ns hf
      split at e
      · rename_i h0
        rw [wp_stp codeT mX hf h0]
        split at e
        · rename_i fs s' hab
          obtain ⟨q, q1, q2, t', q3, q4⟩ := abr_r (z := z) hs hG hab
          rw [q4 ls g]
          obtain ⟨r, r1, r2⟩ := allS_r e q q1
          refine wp_mono codeT mX (ih _ _ _ _ _ _ _ _ r1 ls t' g q2 hl q3 hh) ?_
          rintro v g' ⟨o, o1, o2⟩
          exact ⟨o, r2 _ o1, o2⟩
        · split at e
          · cases e
          · rename_i k' l' s' h' hst
            obtain ⟨ls2, st2, g2, e2, hl2, hs2, hh2⟩ := astp_r hl hs hh hG _ hst
            rw [e2]
            exact ih _ _ _ _ _ _ _ _ e ls2 st2 g2 hG hl2 hs2 hh2
      · rename_i h0
        split at e
        · rename_i h1
          cases d with
          | zero => cases e
          | succ d =>
            rw [wp_call codeT mX hf h1]
            dsimp only at e
            split at e
            · cases e
            · rename_i hrc
              refine ⟨rcv_r hs hh hrc, ?_⟩
              split at e
              · cases e
              · rename_i outs1 hc
                refine wp_mono codeT mX (ih _ _ _ _ _ _ _ _ hc _ [] g hG (ent_r _ (rZ_rev (rZ_take hs))) trivial hh) ?_
                rintro v g' ⟨o, o1, o2, o3, o4⟩
                obtain ⟨r, r1, r2⟩ := allS_r e o o1
                split at r1
                · rename_i hle
                  refine ⟨?_, ?_⟩
                  · rw [← o4.1, ← o4.2.1, ← hh.1, ← hh.2.1]
                    exact hle
                  · have hv : rZ (rV ρ) o.2.1.toList v.toList := by
                      obtain ⟨oG, ov, oh⟩ := o
                      match ov, v, o3 with
                      | none, none, _ => exact trivial
                      | some a, some b, o3 => exact ⟨o3, trivial⟩
                    refine wp_mono codeT mX (ih _ _ _ _ _ _ _ _ r1 ls _ g' o2 hl (rZ_app hv (rZ_drop hs)) o4) ?_
                    rintro v9 g9 ⟨o9, p1, p2⟩
                    exact ⟨o9, r2 _ p1, p2⟩
                · cases r1
        · rename_i h1
          split at e
          · cases e
          · rename_i v hv
            cases e
            obtain ⟨w, w1, w2⟩ := ret_r hG hs hv
            refine ⟨1, w, g, ?_, _, List.mem_singleton.mpr rfl, hG, w2, hh⟩
            rw [ev_2 codeT mX hf h0 h1, w1]
end
