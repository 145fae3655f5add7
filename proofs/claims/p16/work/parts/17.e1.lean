/-! the engine, 1: symbols with bounds -/
abbrev AE : Type := Nat × Int
abbrev EV : Type := AE ⊕ (AE ⊕ AE)
abbrev EL : Type := List (Option EV)
abbrev EG : Type := List (Int × Int × List Nat)
abbrev EO : Type := List ((AE × AE) × EV)
abbrev EF : Type := List (Nat × Nat × Int)
abbrev ED : Type := List ((Nat × AE × AE) × Nat)
abbrev EC : Type := List (Nat × AE × AE)
abbrev EY : Type := EG × EO × EF × ED × EC
def vA (σ : Nat → Int) (a : AE) : Int := σ a.1 + a.2
def vV (σ : Nat → Int) : EV → AV
  | .inl a => .inl (vA σ a)
  | .inr (.inl a) => .inr (.inl (vA σ a))
  | .inr (.inr a) => .inr (.inr (some (vA σ a).toNat))
def okV (N : Nat) : EV → Prop
  | .inl a => a.1 < N
  | .inr (.inl a) => a.1 < N
  | .inr (.inr a) => a.1 < N
def sgnI (x y : Int) : Int := if y < x then 1 else if x < y then -1 else 0
def eV (σ : Nat → Int) (N : Nat) (v : EV) (w : AV) : Prop := okV N v ∧ w = vV σ v
def eL (σ : Nat → Int) (N : Nat) : Option EV → Option AV → Prop
  | none, _ => True
  | some a, some b => eV σ N a b
  | some _, none => False
def agree (σ σ' : Nat → Int) (N : Nat) : Prop := ∀ k, k < N → σ' k = σ k
/-- what a cell holds -/
def cellH (g : AH) (a j : Nat) : AV → Prop
  | .inl z => g.2.2.2.1 a j = z
  | .inr (.inl z) => g.2.2.2.2.1 a j = z
  | .inr (.inr r) => g.2.2.2.2.2 a j = r
def eG (σ : Nat → Int) (G : EG) : Prop := 0 < G.length ∧ σ 0 = 0 ∧ ∀ k q, G[k]? = some q → q.1 ≤ σ k ∧ σ k ≤ q.2.1 ∧ (q.2.2 = [] ∨ ∃ i ∈ q.2.2, σ k = (i : Nat))
def eO (σ : Nat → Int) (N : Nat) (g : AH) (O : EO) : Prop := ∀ e ∈ O, e.1.1.1 < N ∧ e.1.2.1 < N ∧ okV N e.2 ∧ cellH g (vA σ e.1.1).toNat (vA σ e.1.2).toNat (vV σ e.2)
def eF (σ : Nat → Int) (N : Nat) (F : EF) : Prop := ∀ e ∈ F, e.1 < N ∧ e.2.1 < N ∧ σ e.1 + e.2.2 ≤ σ e.2.1
def opf : Nat → Int → Int → Int
  | 0, a, b => w32 (a + b)
  | 1, a, b => w32 (a - b)
  | 2, a, b => w32 (a * b)
  | 3, a, b => w32 (Int.tdiv a b)
  | 4, a, b => w32 (a - Int.tdiv a b * b)
  | 5, a, b => (Int32.ofInt a &&& Int32.ofInt b).toInt
  | 6, a, b => (Int32.ofInt a ||| Int32.ofInt b).toInt
  | 7, a, b => (Int32.ofInt a ^^^ Int32.ofInt b).toInt
  | 8, a, b => (Int32.ofInt a <<< (Int32.ofInt b &&& 31)).toInt
  | 9, a, b => (Int32.ofInt a >>> (Int32.ofInt b &&& 31)).toInt
  | 10, a, b => (((Int32.ofInt a).toUInt32 >>> ((Int32.ofInt b).toUInt32 &&& Int32.toUInt32 31)).toInt32).toInt
  | 20, a, b => w64 (a + b)
  | 21, a, b => w64 (a - b)
  | 22, a, b => w64 (a * b)
  | 23, a, b => w64 (Int.tdiv a b)
  | 24, a, b => w64 (a - Int.tdiv a b * b)
  | 25, a, b => (Int64.ofInt a &&& Int64.ofInt b).toInt
  | 26, a, b => (Int64.ofInt a ||| Int64.ofInt b).toInt
  | 27, a, b => (Int64.ofInt a ^^^ Int64.ofInt b).toInt
  | 28, a, b => (Int64.ofInt a <<< ((Int32.ofInt b).toInt64 &&& 63)).toInt
  | 29, a, b => (Int64.ofInt a >>> ((Int32.ofInt b).toInt64 &&& 63)).toInt
  | 30, a, b => (((Int64.ofInt a).toUInt64 >>> ((Int32.ofInt b).toInt64.toUInt64 &&& Int64.toUInt64 63)).toInt64).toInt
  | _, _, _ => 0
def isLo (op : Nat) : Bool := decide (20 ≤ op)
theorem opf_rg (op : Nat) (a b : Int) (h : op < 20) : rg32 (opf op a b) := by
  unfold opf
  split <;> first | exact w32_rg _ | exact r32 _ | exact rg0 | omega
theorem opf_rgL (op : Nat) (a b : Int) : rg64 (opf op a b) := by
  have k : ∀ z, rg32 z → rg64 z := fun z h => by unfold rg32 at h; unfold rg64; omega
  unfold opf
  split <;> first | exact w64_rg _ | exact r64 _ | exact k _ (w32_rg _) | exact k _ (r32 _) | exact k _ rg0
def eD (σ : Nat → Int) (N : Nat) (D : ED) : Prop := ∀ e ∈ D, e.1.2.1.1 < N ∧ e.1.2.2.1 < N ∧ e.2 < N ∧ σ e.2 = opf e.1.1 (vA σ e.1.2.1) (vA σ e.1.2.2)
def eC (σ : Nat → Int) (N : Nat) (C : EC) : Prop := ∀ e ∈ C, e.1 < N ∧ e.2.1.1 < N ∧ e.2.2.1 < N ∧ σ e.1 = sgnI (vA σ e.2.1) (vA σ e.2.2)
def eY (σ : Nat → Int) (y : EY) (g : AH) : Prop := eG σ y.1 ∧ eO σ y.1.length g y.2.1 ∧ eF σ y.1.length y.2.2.1 ∧ eD σ y.1.length y.2.2.2.1 ∧ eC σ y.1.length y.2.2.2.2
section
variable {σ σ' : Nat → Int} {N N' : Nat}
theorem vA_ag (ha : agree σ σ' N) {a : AE} (h : a.1 < N) : vA σ' a = vA σ a := by unfold vA; rw [ha _ h]
theorem vV_ag (ha : agree σ σ' N) {v : EV} (h : okV N v) : vV σ' v = vV σ v := by
  match v, h with
  | .inl a, h => exact congrArg Sum.inl (vA_ag ha h)
  | .inr (.inl a), h => exact congrArg (fun z => Sum.inr (Sum.inl z)) (vA_ag ha h)
  | .inr (.inr a), h => exact congrArg (fun z : Int => (Sum.inr (Sum.inr (some z.toNat)) : AV)) (vA_ag ha h)
theorem okV_le (hn : N ≤ N') {v : EV} (h : okV N v) : okV N' v := by
  match v, h with
  | .inl a, h => exact Nat.lt_of_lt_of_le h hn
  | .inr (.inl a), h => exact Nat.lt_of_lt_of_le h hn
  | .inr (.inr a), h => exact Nat.lt_of_lt_of_le h hn
theorem eV_ag (ha : agree σ σ' N) (hn : N ≤ N') {v : EV} {w : AV} (h : eV σ N v w) : eV σ' N' v w := ⟨okV_le hn h.1, h.2.trans (vV_ag ha h.1).symm⟩
theorem eL_ag (ha : agree σ σ' N) (hn : N ≤ N') {v : Option EV} {w : Option AV} (h : eL σ N v w) : eL σ' N' v w := by
  match v, w, h with
  | none, _, _ => exact trivial
  | some a, some b, h => exact eV_ag ha hn h
theorem rZ_imp {α β : Type} {R R' : α → β → Prop} (hi : ∀ a b, R a b → R' a b) : ∀ {s : List α} {t : List β}, rZ R s t → rZ R' s t
  | [], t, h => by rw [rZ_nil h]; exact trivial
  | a :: s, t, h => by
    obtain ⟨b, t', rfl, h1, h2⟩ := rZ_cons h
    exact ⟨hi _ _ h1, rZ_imp hi h2⟩
theorem agree_tr {σ'' : Nat → Int} (h : agree σ σ' N) (h' : agree σ' σ'' N') (hn : N ≤ N') : agree σ σ'' N := fun k hk => (h' k (Nat.lt_of_lt_of_le hk hn)).trans (h k hk)
theorem agree_rf : agree σ σ N := fun _ _ => rfl
theorem eO_ag (ha : agree σ σ' N) (hn : N ≤ N') {g : AH} {O : EO} (h : eO σ N g O) : eO σ' N' g O := by
  intro e he
  obtain ⟨h1, h2, h3, h4⟩ := h e he
  refine ⟨Nat.lt_of_lt_of_le h1 hn, Nat.lt_of_lt_of_le h2 hn, okV_le hn h3, ?_⟩
  rw [vA_ag ha h1, vA_ag ha h2, vV_ag ha h3]
  exact h4
theorem eF_ag (ha : agree σ σ' N) (hn : N ≤ N') {F : EF} (h : eF σ N F) : eF σ' N' F := by
  intro e he
  obtain ⟨h1, h2, h3⟩ := h e he
  refine ⟨Nat.lt_of_lt_of_le h1 hn, Nat.lt_of_lt_of_le h2 hn, ?_⟩
  rw [ha _ h1, ha _ h2]
  exact h3
theorem eD_ag (ha : agree σ σ' N) (hn : N ≤ N') {D : ED} (h : eD σ N D) : eD σ' N' D := by
  intro e he
  obtain ⟨h1, h2, h3, h4⟩ := h e he
  refine ⟨Nat.lt_of_lt_of_le h1 hn, Nat.lt_of_lt_of_le h2 hn, Nat.lt_of_lt_of_le h3 hn, ?_⟩
  rw [ha _ h3, vA_ag ha h1, vA_ag ha h2]
  exact h4
theorem eC_ag (ha : agree σ σ' N) (hn : N ≤ N') {C : EC} (h : eC σ N C) : eC σ' N' C := by
  intro e he
  obtain ⟨h1, h2, h3, h4⟩ := h e he
  refine ⟨Nat.lt_of_lt_of_le h1 hn, Nat.lt_of_lt_of_le h2 hn, Nat.lt_of_lt_of_le h3 hn, ?_⟩
  rw [ha _ h1, vA_ag ha h2, vA_ag ha h3]
  exact h4
/-- one symbol more -/
def frs (y : EY) (lo hi : Int) (ids : List Nat) : EY := (y.1 ++ [(lo, hi, ids)], y.2)
theorem frs_r {y : EY} {g : AH} (h : eY σ y g) {lo hi z : Int} {ids : List Nat} (h1 : lo ≤ z) (h2 : z ≤ hi) (h3 : ids = [] ∨ ∃ i ∈ ids, z = (i : Nat)) : ∃ σ', agree σ σ' y.1.length ∧ eY σ' (frs y lo hi ids) g ∧ σ' y.1.length = z := by
  obtain ⟨⟨g1, g2, g3⟩, hO, hF, hD, hC⟩ := h
  have ha : agree σ (fun k => if k = y.1.length then z else σ k) y.1.length := fun k hk => if_neg (by omega)
  have hl : (frs y lo hi ids).1.length = y.1.length + 1 := by
    unfold frs
    rw [List.length_append]
    rfl
  have hn : y.1.length ≤ (frs y lo hi ids).1.length := by omega
  refine ⟨fun k => if k = y.1.length then z else σ k, ha, ⟨⟨by omega, (if_neg (by omega)).trans g2, ?_⟩, eO_ag ha hn hO, eF_ag ha hn hF, eD_ag ha hn hD, eC_ag ha hn hC⟩, if_pos rfl⟩
  intro k q hq
  have hq : (y.1 ++ [(lo, hi, ids)])[k]? = some q := hq
  rcases Nat.lt_trichotomy k y.1.length with hk | hk | hk
  · rw [List.getElem?_append_left hk] at hq
    dsimp only
    rw [if_neg (by omega)]
    exact g3 k q hq
  · subst hk
    rw [List.getElem?_append_right (Nat.le_refl _), Nat.sub_self] at hq
    cases hq
    dsimp only
    rw [if_pos rfl]
    exact ⟨h1, h2, h3⟩
  · rw [List.getElem?_append_right (by omega)] at hq
    have : 1 ≤ k - y.1.length := by omega
    obtain ⟨m, hm⟩ : ∃ m, k - y.1.length = m + 1 := ⟨k - y.1.length - 1, by omega⟩
    rw [hm] at hq
    cases hq
/-- between what a value lies -/
def bd (y : EY) (a : AE) : Int × Int := match y.1[a.1]? with
  | some q => (q.1 + a.2, q.2.1 + a.2)
  | none => (0, 0)
theorem bd_r {y : EY} {g : AH} (h : eY σ y g) {a : AE} (ha : a.1 < y.1.length) : (bd y a).1 ≤ vA σ a ∧ vA σ a ≤ (bd y a).2 := by
  unfold bd vA
  obtain ⟨⟨-, -, g3⟩, -⟩ := h
  have hq : y.1[a.1]? = some y.1[a.1] := List.getElem?_eq_getElem ha
  rw [hq]
  have := g3 _ _ hq
  dsimp only
  omega
/-- a constant -/
def kE (z : Int) : AE := (0, z)
theorem kE_r {y : EY} {g : AH} (h : eY σ y g) (z : Int) : (kE z).1 < y.1.length ∧ vA σ (kE z) = z := ⟨h.1.1, by unfold vA kE; rw [h.1.2.1]; exact Int.zero_add z⟩
theorem k0_r {y : EY} {g : AH} (h : eY σ y g) {a : AE} (ha : a.1 = 0) : vA σ a = a.2 := by unfold vA; rw [ha, h.1.2.1]; exact Int.zero_add _
end
