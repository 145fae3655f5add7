/-! WHAT THE ABSTRACT MACHINE SAYS OF THE REAL ONE, part 1: values, cells, worlds -/
def cvv (ad : Nat → Nat) : AV → Value
  | .inl z => .int (Int32.ofInt z)
  | .inr (.inl z) => .long (Int64.ofInt z)
  | .inr (.inr none) => .null
  | .inr (.inr (some a)) => .ref (ad a)
def rg32 (z : Int) : Prop := -2147483648 ≤ z ∧ z < 2147483648
def rg64 (z : Int) : Prop := -9223372036854775808 ≤ z ∧ z < 9223372036854775808
/-- a number in its range, a reference to a cell, the script (1000000) or the text (1000001) -/
def inR (n : Nat) : AV → Prop
  | .inl z => rg32 z
  | .inr (.inl z) => rg64 z
  | .inr (.inr none) => True
  | .inr (.inr (some a)) => a < n ∨ a = 1000000 ∨ a = 1000001 ∨ a = 1000002
theorem t32 {z : Int} (h : rg32 z) : (Int32.ofInt z).toInt = z := by
  unfold rg32 at h
  exact Int32.toInt_ofInt_of_le (by omega) (by omega)
theorem t64 {z : Int} (h : rg64 z) : (Int64.ofInt z).toInt = z := by
  unfold rg64 at h
  exact Int64.toInt_ofInt_of_le (by omega) (by omega)
theorem o32 (x : Int32) : Int32.ofInt x.toInt = x := Int32.ofInt_toInt x
theorem o64 (x : Int64) : Int64.ofInt x.toInt = x := Int64.ofInt_toInt x
theorem r32 (x : Int32) : rg32 x.toInt := ⟨Int32.le_toInt x, Int32.toInt_lt x⟩
theorem r64 (x : Int64) : rg64 x.toInt := ⟨Int64.le_toInt x, Int64.toInt_lt x⟩
theorem w32_of (z : Int) : Int32.ofInt (w32 z) = Int32.ofInt z := by
  apply Int32.toInt_inj.mp
  rw [Int32.toInt_ofInt, Int32.toInt_ofInt]
  unfold w32
  rw [Int.bmod_def, Int.bmod_def]
  simp only [show Int32.size = 4294967296 from rfl]
  omega
theorem w32_rg (z : Int) : rg32 (w32 z) := by unfold w32 rg32; omega
theorem w64_of (z : Int) : Int64.ofInt (w64 z) = Int64.ofInt z := by
  apply Int64.toInt_inj.mp
  rw [Int64.toInt_ofInt, Int64.toInt_ofInt]
  unfold w64
  rw [Int.bmod_def, Int.bmod_def]
  simp only [show Int64.size = 18446744073709551616 from rfl]
  omega
theorem w64_rg (z : Int) : rg64 (w64 z) := by unfold w64 rg64; omega
theorem w32_id {z : Int} (h : rg32 z) : w32 z = z := by unfold w32; unfold rg32 at h; omega
theorem w64_id {z : Int} (h : rg64 z) : w64 z = z := by unfold w64; unfold rg64 at h; omega
theorem w8_rg (z : Int) : rg32 (w8 z) := by unfold w8 rg32; omega
theorem w8_of {z : Int} (h : rg32 z) : Int32.ofInt (w8 z) = (Int32.ofInt z).toInt8.toInt32 := by
  apply Int32.toInt_inj.mp
  rw [t32 (w8_rg z), Int8.toInt_toInt32, Int32.toInt_toInt8, t32 h]
  unfold w8
  rw [Int.bmod_def]
  try simp only [show ((2 : Nat) ^ 8 : Nat) = 256 from rfl]
  omega
theorem lt32 {a b : Int} (ha : rg32 a) (hb : rg32 b) : Int32.ofInt a < Int32.ofInt b ↔ a < b := by rw [Int32.lt_iff_toInt_lt, t32 ha, t32 hb]
theorem le32 {a b : Int} (ha : rg32 a) (hb : rg32 b) : Int32.ofInt a ≤ Int32.ofInt b ↔ a ≤ b := by rw [Int32.le_iff_toInt_le, t32 ha, t32 hb]
theorem eq32 {a b : Int} (ha : rg32 a) (hb : rg32 b) : Int32.ofInt a = Int32.ofInt b ↔ a = b := by rw [← Int32.toInt_inj, t32 ha, t32 hb]
theorem lt64 {a b : Int} (ha : rg64 a) (hb : rg64 b) : Int64.ofInt a < Int64.ofInt b ↔ a < b := by rw [Int64.lt_iff_toInt_lt, t64 ha, t64 hb]
theorem rg0 : rg32 0 := ⟨by decide, by decide⟩
theorem z32 : (0 : Int32) = Int32.ofInt 0 := rfl
/-- what the real machine's word is at an index -/
theorem ix32 {j : Int} {n : Nat} (hj : rg32 j) (h0 : 0 ≤ j) (hn : j < (n : Int)) : vp_in (Int32.ofInt j) n ∧ (Int32.ofInt j).toNatClampNeg = j.toNat := by
  have e : (Int32.ofInt j).toNatClampNeg = j.toNat := by show (Int32.ofInt j).toInt.toNat = _; rw [t32 hj]
  refine ⟨vp_in_iff.mpr ⟨by rw [t32 hj]; exact h0, by rw [t32 hj]; exact hn⟩, e⟩
-- ===== cells =====
def fkN : Nat → List Nat := fun t => fkL.getD t []
def cfv (ad : Nat → Nat) (kind : Nat) (i j : Int) (r : Option Nat) : Value := match kind with
  | 1 => .long (Int64.ofInt j)
  | 2 => va_rf (r.map ad)
  | _ => .int (Int32.ofInt i)
def ceE (tyC : Nat → ClassId) (ad : Nat → Nat) (t : Nat × Nat) (I J : Nat → Int) (R : Nat → Option Nat) : va_E :=
  if t.1 < 100 then .inr (t.1, (List.range t.2).map (fun k => cfv ad ((fkN t.1).getD k 0) (I k) (J k) (R k)))
  else .inl (tyC (t.1 - 100), t.2, if t.1 ≤ 102 then .inl (fun j => Int32.ofInt (I j)) else if t.1 = 103 then .inr (.inl (fun j => Int64.ofInt (J j))) else .inr (.inr (.inr (.inr (fun j => (R j).map ad)))))
def wsE (tyC : Nat → ClassId) (ad : Nat → Nat) (h : AH) : va_W := (List.range h.1).map (fun a => (ad a, ceE tyC ad (h.2.2.1 a) (h.2.2.2.1 a) (h.2.2.2.2.1 a) (h.2.2.2.2.2 a)))
def tysE (tyC : Nat → ClassId) : List (ClassId × FieldType) := [(tyC 0, .int), (tyC 1, .byte), (tyC 2, .boolean), (tyC 3, .long), (tyC 4, .array .int), (tyC 5, .object "StarDays$Law")]
def rgE (h : AH) : Prop := (∀ a j, rg32 (h.2.2.2.1 a j)) ∧ (∀ a j, rg64 (h.2.2.2.2.1 a j)) ∧ ∀ a j r, h.2.2.2.2.2 a j = some r → r < h.1
theorem wsE_at {tyC : Nat → ClassId} {ad : Nat → Nat} {h : AH} {a : Nat} (ha : a < h.1) : (wsE tyC ad h)[a]? = some (ad a, ceE tyC ad (h.2.2.1 a) (h.2.2.2.1 a) (h.2.2.2.2.1 a) (h.2.2.2.2.2 a)) := by
  unfold wsE
  rw [List.getElem?_map, List.getElem?_range ha]
  rfl
theorem wsE_len {tyC : Nat → ClassId} {ad : Nat → Nat} {h : AH} : (wsE tyC ad h).length = h.1 := by unfold wsE; simp
/-- one cell changed -/
theorem wsE_set {tyC : Nat → ClassId} {ad : Nat → Nat} {h h' : AH} {a : Nat} {x : va_E} (hn : h'.1 = h.1) (hT : h'.2.2.1 = h.2.2.1) (ho : ∀ q, q ≠ a → h'.2.2.2.1 q = h.2.2.2.1 q ∧ h'.2.2.2.2.1 q = h.2.2.2.2.1 q ∧ h'.2.2.2.2.2 q = h.2.2.2.2.2 q) (hx : x = ceE tyC ad (h'.2.2.1 a) (h'.2.2.2.1 a) (h'.2.2.2.2.1 a) (h'.2.2.2.2.2 a)) : (wsE tyC ad h).set a (ad a, x) = wsE tyC ad h' := by
  subst hx
  apply List.ext_getElem?
  intro k
  by_cases hk : k < h.1
  · rw [wsE_at (h := h') (by rw [hn]; exact hk)]
    by_cases e : k = a
    · subst e
      rw [List.getElem?_set_self (by rw [wsE_len]; exact hk)]
    · rw [List.getElem?_set_ne (Ne.symm e), wsE_at hk, hT, (ho k e).1, (ho k e).2.1, (ho k e).2.2]
  · rw [List.getElem?_eq_none (by rw [List.length_set, wsE_len]; omega), List.getElem?_eq_none (by rw [wsE_len, hn]; omega)]
/-- other names of the same cells: where they agree -/
theorem ceE_ad {tyC : Nat → ClassId} {ad ad' : Nat → Nat} {t : Nat × Nat} {I J : Nat → Int} {R : Nat → Option Nat} (h : ∀ j r, R j = some r → ad' r = ad r) : ceE tyC ad' t I J R = ceE tyC ad t I J R := by
  have hR : ∀ j, (R j).map ad' = (R j).map ad := by
    intro j
    cases hj : R j with
    | none => rfl
    | some r => simp [h j r hj]
  unfold ceE
  split
  · congr 2
    apply List.map_congr_left
    intro k _
    unfold cfv
    split <;> first | rfl | rw [hR]
  · simp only [hR]
theorem wsE_ad {tyC : Nat → ClassId} {ad ad' : Nat → Nat} {h : AH} (hr : rgE h) (ha : ∀ a, a < h.1 → ad' a = ad a) : wsE tyC ad' h = wsE tyC ad h := by
  unfold wsE
  apply List.map_congr_left
  intro a hm
  have hm := List.mem_range.mp hm
  rw [ha a hm, ceE_ad (fun j r e => ha r (hr.2.2 a j r e))]
-- ===== locals =====
def lvE (ad : Nat → Nat) : AL → Nat → List (Nat × Value)
  | [], _ => []
  | none :: r, i => lvE ad r (i + 1)
  | some v :: r, i => (i, cvv ad v) :: lvE ad r (i + 1)
theorem lvE_mem {ad : Nat → Nat} : ∀ (als : AL) (i : Nat) (q : Nat × Value), q ∈ lvE ad als i ↔ ∃ (j : Nat) (v : AV), als[j]? = some (some v) ∧ q = (i + j, cvv ad v)
  | [], i, q => by simp [lvE]
  | none :: r, i, q => by
    rw [lvE, lvE_mem r (i + 1) q]
    constructor
    · rintro ⟨j, v, h1, h2⟩
      exact ⟨j + 1, v, by simpa using h1, by rw [h2]; congr 1; omega⟩
    · rintro ⟨j, v, h1, h2⟩
      cases j with
      | zero => simp at h1
      | succ j => exact ⟨j, v, by simpa using h1, by rw [h2]; congr 1; omega⟩
  | some w :: r, i, q => by
    rw [lvE, List.mem_cons, lvE_mem r (i + 1) q]
    constructor
    · rintro (h | ⟨j, v, h1, h2⟩)
      · exact ⟨0, w, by simp, by rw [h]; rfl⟩
      · exact ⟨j + 1, v, by simpa using h1, by rw [h2]; congr 1; omega⟩
    · rintro ⟨j, v, h1, h2⟩
      cases j with
      | zero =>
        have : w = v := by simpa using h1
        subst this
        exact Or.inl h2
      | succ j => exact Or.inr ⟨j, v, by simpa using h1, by rw [h2]; congr 1; omega⟩
def lrE (ad : Nat → Nat) (n nL : Nat) (als : AL) (cls : Array Slot) : Prop := als.length = nL ∧ lv_has cls nL (lvE ad als 0) ∧ ∀ (i : Nat) (v : AV), als[i]? = some (some v) → inR n v
theorem lrE_get {ad : Nat → Nat} {n nL : Nat} {als : AL} {cls : Array Slot} (h : lrE ad n nL als cls) {i : Nat} {v : AV} (hi : als[i]? = some (some v)) : cls[i]? = some (.val (cvv ad v)) := by
  have := h.2.1.2.2 (i, cvv ad v) ((lvE_mem als 0 _).mpr ⟨i, v, hi, by simp⟩)
  exact this
theorem cvv_cat (ad : Nat → Nat) (v : AV) : (cvv ad v).category = am_cat v := by
  rcases v with z | z | (_ | a) <;> rfl
theorem am_clr_get {ls : AL} {i j : Nat} {w : AV} (h : (am_clr ls i)[j]? = some (some w)) : ls[j]? = some (some w) ∧ ¬ (j + 1 = i ∧ am_cat w = 2) := by
  unfold am_clr at h
  cases i with
  | zero => exact ⟨h, fun q => by omega⟩
  | succ i =>
    dsimp only at h
    split at h
    · rename_i z hz
      by_cases e : j = i
      · subst e
        have hl : j < ls.length := (List.getElem?_eq_some_iff.mp hz).1
        rw [List.getElem?_set_self hl] at h
        cases h
      · rw [List.getElem?_set_ne (Ne.symm e)] at h
        exact ⟨h, fun q => e (by omega)⟩
    · rename_i hn
      refine ⟨h, fun q => ?_⟩
      have e : j = i := by omega
      subst e
      rcases w with z | z | o
      · exact absurd q.2 (fun q9 => by cases q9)
      · exact hn z h
      · exact absurd q.2 (fun q9 => by cases q9)
theorem am_clr_len (ls : AL) (i : Nat) : (am_clr ls i).length = ls.length := by
  unfold am_clr
  cases i with
  | zero => rfl
  | succ i => dsimp only; split <;> simp
theorem am_st1_get {ls : AL} {i j : Nat} {v w : AV} (h : (am_st1 ls i v)[j]? = some (some w)) : (j = i ∧ w = v) ∨ (j ≠ i ∧ ls[j]? = some (some w) ∧ ¬ (j + 1 = i ∧ am_cat w = 2)) := by
  unfold am_st1 at h
  by_cases e : j = i
  · subst e
    have hl : j < (am_clr ls j).length := by have := (List.getElem?_eq_some_iff.mp h).1; simpa using this
    rw [List.getElem?_set_self hl] at h
    cases h
    exact Or.inl ⟨rfl, rfl⟩
  · rw [List.getElem?_set_ne (Ne.symm e)] at h
    exact Or.inr ⟨e, am_clr_get h⟩
theorem am_st2_get {ls : AL} {i j : Nat} {v w : AV} (h : (am_st2 ls i v)[j]? = some (some w)) : (j = i ∧ w = v) ∨ (j ≠ i ∧ j ≠ i + 1 ∧ ls[j]? = some (some w) ∧ ¬ (j + 1 = i ∧ am_cat w = 2)) := by
  unfold am_st2 at h
  by_cases e1 : j = i + 1
  · subst e1
    have hl : i + 1 < ((am_clr ls i).set i (some v)).length := by have := (List.getElem?_eq_some_iff.mp h).1; simpa using this
    rw [List.getElem?_set_self hl] at h
    cases h
  · rw [List.getElem?_set_ne (Ne.symm e1)] at h
    rcases am_st1_get (v := v) (by unfold am_st1; exact h) with q | q
    · exact Or.inl q
    · exact Or.inr ⟨q.1, e1, q.2⟩
theorem lv_mono {ls : Array Slot} {nL : Nat} {l l' : List (Nat × Value)} (h : lv_has ls nL l) (hs : ∀ q ∈ l', q ∈ l) : lv_has ls nL l' := ⟨h.1, h.2.1, fun q hq => h.2.2 q (hs q hq)⟩
theorem lrE_st1 {ad : Nat → Nat} {n nL : Nat} {als : AL} {cls cls' : Array Slot} {i : Nat} {v : AV} (h : lrE ad n nL als cls) (hv : inR n v) (h' : lv_has cls' nL ((i, cvv ad v) :: (lvE ad als 0).filter (fun q => !(q.1 == i) && !(q.1 + 1 == i && q.2.category == 2)))) : lrE ad n nL (am_st1 als i v) cls' := by
  refine ⟨by unfold am_st1; rw [List.length_set, am_clr_len]; exact h.1, lv_mono h' fun q hq => ?_, fun j w hj => ?_⟩
  · obtain ⟨j, w, h1, rfl⟩ := (lvE_mem _ _ _).mp hq
    rcases am_st1_get h1 with ⟨rfl, rfl⟩ | ⟨e, e1, e2⟩
    · rw [Nat.zero_add]; exact List.mem_cons_self
    · refine List.mem_cons_of_mem _ (List.mem_filter.mpr ⟨(lvE_mem _ _ _).mpr ⟨j, w, e1, rfl⟩, ?_⟩)
      simp only [Nat.zero_add, Bool.and_eq_true, Bool.not_eq_true', beq_eq_false_iff_ne, ne_eq, Bool.and_eq_false_iff]
      refine ⟨e, ?_⟩
      by_cases z : j + 1 = i
      · right
        rw [cvv_cat]
        exact fun q => e2 ⟨z, q⟩
      · exact Or.inl z
  · rcases am_st1_get hj with ⟨rfl, rfl⟩ | ⟨_, e1, _⟩
    · exact hv
    · exact h.2.2 j w e1
theorem lrE_st2 {ad : Nat → Nat} {n nL : Nat} {als : AL} {cls cls' : Array Slot} {i : Nat} {v : AV} (h : lrE ad n nL als cls) (hv : inR n v) (h' : lv_has cls' nL ((i, cvv ad v) :: (lvE ad als 0).filter (fun q => !(q.1 == i) && (!(q.1 == i + 1) && !(q.1 + 1 == i && q.2.category == 2))))) : lrE ad n nL (am_st2 als i v) cls' := by
  refine ⟨by unfold am_st2; rw [List.length_set, List.length_set, am_clr_len]; exact h.1, lv_mono h' fun q hq => ?_, fun j w hj => ?_⟩
  · obtain ⟨j, w, h1, rfl⟩ := (lvE_mem _ _ _).mp hq
    rcases am_st2_get h1 with ⟨rfl, rfl⟩ | ⟨e, e0, e1, e2⟩
    · rw [Nat.zero_add]; exact List.mem_cons_self
    · refine List.mem_cons_of_mem _ (List.mem_filter.mpr ⟨(lvE_mem _ _ _).mpr ⟨j, w, e1, rfl⟩, ?_⟩)
      simp only [Nat.zero_add, Bool.and_eq_true, Bool.not_eq_true', beq_eq_false_iff_ne, ne_eq, Bool.and_eq_false_iff]
      refine ⟨e, e0, ?_⟩
      by_cases z : j + 1 = i
      · right
        rw [cvv_cat]
        exact fun q => e2 ⟨z, q⟩
      · exact Or.inl z
  · rcases am_st2_get hj with ⟨rfl, rfl⟩ | ⟨_, _, e1, _⟩
    · exact hv
    · exact h.2.2 j w e1
theorem cvv_ad {ad ad' : Nat → Nat} {n : Nat} {v : AV} (h : inR n v) (h1 : ∀ a, a < n → ad' a = ad a) (h2 : ad' 1000000 = ad 1000000) (h3 : ad' 1000001 = ad 1000001 ∧ ad' 1000002 = ad 1000002) : cvv ad' v = cvv ad v := by
  rcases v with z | z | (_ | a)
  · rfl
  · rfl
  · rfl
  · show Value.ref _ = .ref _
    rcases h with q | rfl | rfl | rfl
    · rw [h1 a q]
    · rw [h2]
    · rw [h3.1]
    · rw [h3.2]
theorem inR_le {n n' : Nat} {v : AV} (h : inR n v) (hn : n ≤ n') : inR n' v := by
  rcases v with z | z | (_ | a)
  · exact h
  · exact h
  · trivial
  · rcases h with q | q
    · exact Or.inl (by omega)
    · exact Or.inr q
theorem lrE_ad {ad ad' : Nat → Nat} {n n' nL : Nat} {als : AL} {cls : Array Slot} (h : lrE ad n nL als cls) (hn : n ≤ n') (h1 : ∀ a, a < n → ad' a = ad a) (h2 : ad' 1000000 = ad 1000000) (h3 : ad' 1000001 = ad 1000001 ∧ ad' 1000002 = ad 1000002) : lrE ad' n' nL als cls := by
  refine ⟨h.1, lv_mono h.2.1 fun q hq => ?_, fun i v hi => inR_le (h.2.2 i v hi) hn⟩
  obtain ⟨j, w, e1, rfl⟩ := (lvE_mem _ _ _).mp hq
  exact (lvE_mem _ _ _).mpr ⟨j, w, e1, by rw [cvv_ad (h.2.2 j w e1) h1 h2 h3]⟩
theorem map_ad {ad ad' : Nat → Nat} {n : Nat} {st : List AV} (h : ∀ v ∈ st, inR n v) (h1 : ∀ a, a < n → ad' a = ad a) (h2 : ad' 1000000 = ad 1000000) (h3 : ad' 1000001 = ad 1000001 ∧ ad' 1000002 = ad 1000002) : st.map (cvv ad') = st.map (cvv ad) := List.map_congr_left fun v hv => cvv_ad (h v hv) h1 h2 h3
theorem cats_map (ad : Nat → Nat) (st : List AV) : ((st.map (cvv ad)).map fun v => v.category).sum = am_cats st := by
  induction st with
  | nil => rfl
  | cons v t ih => simp only [List.map_cons, List.sum_cons, cvv_cat, ih, am_cats]
