/-! the engine, 16: measures -/
def mcV (m : AL) (c : MC) : Int := if c.1 = 0 then c.2.2 else match m[c.2.1]? with
  | some (some (.inl z)) => if c.1 = 1 then c.2.2 - z else z - c.2.2
  | _ => 0
abbrev MS : Type := List (Bool × AE)
def vM (σ : Nat → Int) (q : Bool × AE) : Int := match q.1 with
  | true => - vA σ q.2
  | false => vA σ q.2
def mcE (ls : EL) (c : MC) : Option (Bool × AE) := if c.1 = 0 then some (false, (0, c.2.2)) else match lcI ls c.2.1 with
  | some a => if c.1 = 1 then some (true, (a.1, a.2 - c.2.2)) else some (false, (a.1, a.2 - c.2.2))
  | none => none
def mcL (ls : EL) : List MC → Option MS
  | [] => some []
  | c :: l => match mcE ls c, mcL ls l with
    | some q, some r => some (q :: r)
    | _, _ => none
def inB (y : EY) (q : Bool × AE) : Bool := match q.1 with
  | true => decide ((bd y q.2).2 ≤ 0) && decide (-1048576 < (bd y q.2).1)
  | false => decide (0 ≤ (bd y q.2).1) && decide ((bd y q.2).2 < 1048576)
def lexV : List Int → Nat
  | [] => 0
  | x :: l => x.toNat * 1048576 ^ l.length + lexV l
def ltC (y : EY) (n o : Bool × AE) : Bool := match n.1, o.1 with
  | false, false => leq y (n.2.1, n.2.2 + 1) o.2
  | true, true => leq y (o.2.1, o.2.2 + 1) n.2
  | true, false => decide (n.2.1 = 0) && leq y (0, 1 - n.2.2) o.2
  | false, true => decide (o.2.1 = 0) && leq y (n.2.1, n.2.2 + 1) (0, - o.2.2)
def eqC (n o : Bool × AE) : Bool := (n.1 == o.1) && aeB n.2 o.2
def lexC (y : EY) : MS → MS → Bool
  | n :: ns, o :: os => ltC y n o || (eqC n o && lexC y ns os)
  | _, _ => false
/-- behind the start: less than at the start -/
def decC (y : EY) (old : Option MS) (ls : EL) (c : CUT) : Bool := match old with
  | none => true
  | some os => match mcL ls c.2.2.2.2.2 with
    | some ns => ns.all (inB y) && (decide (ns.length = os.length) && lexC y ns os)
    | none => false
def meas (c : CUT) (m : AL) : Nat := lexV (c.2.2.2.2.2.map (mcV m))
section
variable {σ : Nat → Int} {y : EY} {g : AH}
theorem mcE_r {N : Nat} (h0 : σ 0 = 0) (hN : 0 < N) {ls : EL} {m : AL} (hl : rZ (eL σ N) ls m) {c : MC} {q : Bool × AE} (h : mcE ls c = some q) : q.2.1 < N ∧ mcV m c = vM σ q := by
  unfold mcE at h
  unfold mcV
  split at h
  · rename_i e
    cases h
    rw [if_pos e]
    exact ⟨hN, by show c.2.2 = σ 0 + c.2.2; rw [h0]; exact (Int.zero_add _).symm⟩
  · rename_i e
    rw [if_neg e]
    split at h
    · rename_i a ha
      obtain ⟨a1, a2⟩ := lcI_r hl ha
      rw [a2]
      split at h
      · rename_i e1
        cases h
        dsimp only
        rw [if_pos e1]
        refine ⟨a1, ?_⟩
        unfold vM vA
        dsimp only
        omega
      · rename_i e1
        cases h
        dsimp only
        rw [if_neg e1]
        refine ⟨a1, ?_⟩
        unfold vM vA
        dsimp only
        omega
    · cases h
theorem mcL_r {N : Nat} (h0 : σ 0 = 0) (hN : 0 < N) {ls : EL} {m : AL} (hl : rZ (eL σ N) ls m) : ∀ {l : List MC} {r : MS}, mcL ls l = some r → (∀ q ∈ r, q.2.1 < N) ∧ l.map (mcV m) = r.map (vM σ)
  | [], r, h => by
    cases h
    exact ⟨fun q hq => (by cases hq), rfl⟩
  | c :: l, r, h => by
    rw [mcL] at h
    split at h
    · rename_i q r' h1 h2
      cases h
      obtain ⟨e1, e2⟩ := mcE_r h0 hN hl h1
      obtain ⟨e3, e4⟩ := mcL_r h0 hN hl h2
      refine ⟨fun q' hq => ?_, ?_⟩
      · rcases List.mem_cons.mp hq with rfl | hq
        · exact e1
        · exact e3 q' hq
      · rw [List.map_cons, List.map_cons, e2, e4]
    · cases h
theorem vM_ag {σ' : Nat → Int} {N : Nat} (ha : agree σ σ' N) {r : MS} (h : ∀ q ∈ r, q.2.1 < N) : r.map (vM σ') = r.map (vM σ) := by
  refine List.map_congr_left fun q hq => ?_
  unfold vM
  rw [vA_ag ha (h q hq)]
theorem inB_r (h : eY σ y g) {q : Bool × AE} (hq : q.2.1 < y.1.length) (hb : inB y q = true) : 0 ≤ vM σ q ∧ vM σ q < 1048576 := by
  unfold inB at hb
  unfold vM
  have := bd_r h hq
  split at hb <;> simp only [Bool.and_eq_true, decide_eq_true_eq] at hb <;> omega
theorem lexV_lt : ∀ {l : List Int}, (∀ x ∈ l, 0 ≤ x ∧ x < 1048576) → lexV l < 1048576 ^ l.length
  | [], _ => by decide
  | x :: l, h => by
    have h1 := h x List.mem_cons_self
    have h2 := lexV_lt (l := l) (fun x hx => h x (List.mem_cons_of_mem _ hx))
    rw [lexV, List.length_cons, Nat.pow_succ]
    have h3 : x.toNat + 1 ≤ 1048576 := by omega
    have h4 : (x.toNat + 1) * 1048576 ^ l.length ≤ 1048576 * 1048576 ^ l.length := Nat.mul_le_mul_right _ h3
    rw [Nat.add_mul, Nat.one_mul] at h4
    rw [Nat.mul_comm (1048576 ^ l.length)]
    omega
theorem ltC_r (h : eY σ y g) {n o : Bool × AE} (hn : n.2.1 < y.1.length) (ho : o.2.1 < y.1.length) (hl : ltC y n o = true) : vM σ n < vM σ o := by
  have h0 := h.1.2.1
  unfold ltC at hl
  unfold vM
  split at hl <;> rename_i e1 e2 <;> rw [e1, e2] <;> dsimp only
  · have := leq_r h (a := (n.2.1, n.2.2 + 1)) hn ho hl
    unfold vA at this ⊢
    dsimp only at this
    omega
  · have := leq_r h (a := (o.2.1, o.2.2 + 1)) ho hn hl
    unfold vA at this ⊢
    dsimp only at this
    omega
  · rw [Bool.and_eq_true, decide_eq_true_eq] at hl
    have := leq_r h (a := (0, 1 - n.2.2)) h.1.1 ho hl.2
    have hn0 := k0_r h hl.1
    rw [hn0]
    unfold vA at this ⊢
    dsimp only at this
    omega
  · rw [Bool.and_eq_true, decide_eq_true_eq] at hl
    have := leq_r h (a := (n.2.1, n.2.2 + 1)) (b := (0, - o.2.2)) hn h.1.1 hl.2
    have ho0 := k0_r h hl.1
    rw [ho0]
    unfold vA at this ⊢
    dsimp only at this
    omega
theorem eqC_r {n o : Bool × AE} (hl : eqC n o = true) : n = o := by
  unfold eqC at hl
  rw [Bool.and_eq_true, beq_iff_eq] at hl
  exact Prod.ext hl.1 (aeB_r hl.2)
theorem lexC_r (h : eY σ y g) : ∀ {ns os : MS}, (∀ q ∈ ns, q.2.1 < y.1.length) → (∀ q ∈ os, q.2.1 < y.1.length) → (∀ q ∈ ns, 0 ≤ vM σ q ∧ vM σ q < 1048576) → ns.length = os.length → lexC y ns os = true → lexV (ns.map (vM σ)) < lexV (os.map (vM σ))
  | [], _, _, _, _, _, hl => by simp [lexC] at hl
  | _ :: _, [], _, _, _, _, hl => by simp [lexC] at hl
  | n :: ns, o :: os, h1, h2, h3, h4, hl => by
    rw [lexC, Bool.or_eq_true, Bool.and_eq_true] at hl
    rw [List.length_cons, List.length_cons] at h4
    rw [List.map_cons, List.map_cons, lexV, lexV, List.length_map, List.length_map]
    have h4 : ns.length = os.length := by omega
    rw [h4]
    rcases hl with hl | ⟨hl1, hl2⟩
    · have h5 := ltC_r h (h1 n List.mem_cons_self) (h2 o List.mem_cons_self) hl
      have h6 := h3 n List.mem_cons_self
      have h7 := lexV_lt (l := ns.map (vM σ)) (fun x hx => by
        obtain ⟨q, hq, rfl⟩ := List.mem_map.mp hx
        exact h3 q (List.mem_cons_of_mem _ hq))
      rw [List.length_map, h4] at h7
      have h8 : (vM σ n).toNat + 1 ≤ (vM σ o).toNat := by omega
      have h9 := Nat.mul_le_mul_right (1048576 ^ os.length) h8
      rw [Nat.add_mul, Nat.one_mul] at h9
      omega
    · rw [eqC_r hl1]
      have := lexC_r h (fun q hq => h1 q (List.mem_cons_of_mem _ hq)) (fun q hq => h2 q (List.mem_cons_of_mem _ hq)) (fun q hq => h3 q (List.mem_cons_of_mem _ hq)) h4 hl2
      omega
/-- the measure has gone down -/
theorem decC_r (h : eY σ y g) {old : Option MS} {ls : EL} {m : AL} {c : CUT} (hl : rZ (eL σ y.1.length) ls m) (hd : decC y old ls c = true) : old = none ∨ ∃ os, old = some os ∧ ((∀ q ∈ os, q.2.1 < y.1.length) → meas c m < lexV (os.map (vM σ))) := by
  unfold decC at hd
  split at hd
  · exact Or.inl rfl
  · rename_i os
    refine Or.inr ⟨os, rfl, fun ho => ?_⟩
    split at hd
    · rename_i ns hns
      simp only [Bool.and_eq_true, decide_eq_true_eq, List.all_eq_true] at hd
      obtain ⟨d1, d2, d3⟩ := hd
      obtain ⟨e3, e4⟩ := mcL_r h.1.2.1 h.1.1 hl hns
      unfold meas
      rw [e4]
      exact lexC_r h e3 ho (fun q hq => inB_r h (e3 q hq) (d1 q hq)) d2 d3
    · cases hd
end
