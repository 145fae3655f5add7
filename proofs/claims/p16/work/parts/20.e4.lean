/-! the engine, 4: operations on symbols -/
def fitB (op : Nat) (y : EY) (a b : AE) : Bool := decide ((tyB (isLo op)).1 ≤ (opB op (bd y a) (bd y b)).1) && decide ((opB op (bd y a) (bd y b)).2 ≤ (tyB (isLo op)).2) && (isLo op || (decide (-2147483648 ≤ (bd y a).1) && decide ((bd y a).2 ≤ 2147483647) && decide (-2147483648 ≤ (bd y b).1) && decide ((bd y b).2 ≤ 2147483647)))
def findD (op : Nat) (a b : AE) : ED → Option Nat
  | [] => none
  | e :: r => if e.1.1 = op ∧ e.1.2.1 = a ∧ e.1.2.2 = b then some e.2 else findD op a b r
/-- a known operation for the newest symbol -/
def puD (y : EY) (e : (Nat × AE × AE) × Nat) : EY := (y.1, y.2.1, y.2.2.1, e :: y.2.2.2.1, y.2.2.2.2)
def puC (y : EY) (e : Nat × AE × AE) : EY := (y.1, y.2.1, y.2.2.1, y.2.2.2.1, e :: y.2.2.2.2)
def puF (y : EY) (e : Nat × Nat × Int) : EY := (y.1, y.2.1, e :: y.2.2.1, y.2.2.2)
def eop (op : Nat) (y : EY) (a b : AE) : AE × EY :=
  if a.1 = 0 ∧ b.1 = 0 then ((0, opf op a.2 b.2), y)
  else match fitB op y a b with
  | true =>
    if (op = 0 ∨ op = 20) ∧ b.1 = 0 then ((a.1, a.2 + b.2), y)
    else if (op = 0 ∨ op = 20) ∧ a.1 = 0 then ((b.1, b.2 + a.2), y)
    else if (op = 1 ∨ op = 21) ∧ b.1 = 0 then ((a.1, a.2 - b.2), y)
    else if (op = 1 ∨ op = 21) ∧ a.1 = b.1 then ((0, a.2 - b.2), y)
    else match findD op a b y.2.2.2.1 with
    | some s => ((s, 0), y)
    | none => ((y.1.length, 0), (if op = 0 ∨ op = 20 then puF (puF (puD (frs y (opB op (bd y a) (bd y b)).1 (opB op (bd y a) (bd y b)).2 []) ((op, a, b), y.1.length)) (a.1, y.1.length, a.2 + (bd y b).1)) (y.1.length, a.1, -(a.2 + (bd y b).2)) else puD (frs y (opB op (bd y a) (bd y b)).1 (opB op (bd y a) (bd y b)).2 []) ((op, a, b), y.1.length)))
  | false => match findD op a b y.2.2.2.1 with
    | some s => ((s, 0), y)
    | none => ((y.1.length, 0), puD (frs y (tyB (isLo op)).1 (tyB (isLo op)).2 []) ((op, a, b), y.1.length))
section
variable {σ : Nat → Int} {y : EY} {g : AH}
theorem findD_m {op : Nat} {a b : AE} {s : Nat} : ∀ {D : ED}, findD op a b D = some s → ((op, a, b), s) ∈ D
  | [], h => by cases h
  | e :: r, h => by
    rw [findD] at h
    split at h
    · rename_i e9
      cases h
      obtain ⟨⟨o, p, q⟩, s9⟩ := e
      obtain ⟨e1, e2, e3⟩ := e9
      dsimp only at e1 e2 e3
      subst e1 e2 e3
      exact List.mem_cons_self
    · exact List.mem_cons_of_mem _ (findD_m h)
theorem frs_len {lo hi : Int} {ids : List Nat} : (frs y lo hi ids).1.length = y.1.length + 1 := by unfold frs; rw [List.length_append]; rfl
/-- the step of a fresh answer -/
def stpY (σ : Nat → Int) (y : EY) (g : AH) (r : AE × EY) (z : Int) : Prop := ∃ σ', agree σ σ' y.1.length ∧ eY σ' r.2 g ∧ y.1.length ≤ r.2.1.length ∧ r.1.1 < r.2.1.length ∧ vA σ' r.1 = z
theorem stpY_now (h : eY σ y g) {a : AE} {z : Int} (ha : a.1 < y.1.length) (hz : vA σ a = z) : stpY σ y g (a, y) z := ⟨σ, agree_rf, h, Nat.le_refl _, ha, hz⟩
theorem puD_r {e : (Nat × AE × AE) × Nat} (h : eY σ y g) (h1 : e.1.2.1.1 < y.1.length) (h2 : e.1.2.2.1 < y.1.length) (h3 : e.2 < y.1.length) (h4 : σ e.2 = opf e.1.1 (vA σ e.1.2.1) (vA σ e.1.2.2)) : eY σ (puD y e) g := by
  obtain ⟨hG, hO, hF, hD, hC⟩ := h
  refine ⟨hG, hO, hF, fun e' he' => ?_, hC⟩
  rcases List.mem_cons.mp he' with rfl | he'
  · exact ⟨h1, h2, h3, h4⟩
  · exact hD e' he'
theorem puF_r {e : Nat × Nat × Int} (h : eY σ y g) (h1 : e.1 < y.1.length) (h2 : e.2.1 < y.1.length) (h3 : σ e.1 + e.2.2 ≤ σ e.2.1) : eY σ (puF y e) g := by
  obtain ⟨hG, hO, hF, hR⟩ := h
  refine ⟨hG, hO, fun e' he' => ?_, hR⟩
  rcases List.mem_cons.mp he' with rfl | he'
  · exact ⟨h1, h2, h3⟩
  · exact hF e' he'
theorem puC_r {e : Nat × AE × AE} (h : eY σ y g) (h1 : e.1 < y.1.length) (h2 : e.2.1.1 < y.1.length) (h3 : e.2.2.1 < y.1.length) (h4 : σ e.1 = sgnI (vA σ e.2.1) (vA σ e.2.2)) : eY σ (puC y e) g := by
  obtain ⟨hG, hO, hF, hD, hC⟩ := h
  refine ⟨hG, hO, hF, hD, fun e' he' => ?_⟩
  rcases List.mem_cons.mp he' with rfl | he'
  · exact ⟨h1, h2, h3, h4⟩
  · exact hC e' he'
theorem frD_r (h : eY σ y g) {op : Nat} {a b : AE} {lo hi : Int} (ha : a.1 < y.1.length) (hb : b.1 < y.1.length) (h1 : lo ≤ opf op (vA σ a) (vA σ b)) (h2 : opf op (vA σ a) (vA σ b) ≤ hi) : ∃ σ', agree σ σ' y.1.length ∧ eY σ' (puD (frs y lo hi []) ((op, a, b), y.1.length)) g ∧ σ' y.1.length = opf op (vA σ a) (vA σ b) := by
  obtain ⟨σ', ag, hy, hz⟩ := frs_r (ids := []) h h1 h2 (Or.inl rfl)
  have hl := frs_len (y := y) (lo := lo) (hi := hi) (ids := [])
  exact ⟨σ', ag, puD_r hy (by dsimp only; omega) (by dsimp only; omega) (by dsimp only; omega) (by dsimp only; rw [vA_ag ag ha, vA_ag ag hb]; exact hz), hz⟩
theorem fitB_r (h : eY σ y g) {op : Nat} {a b : AE} (ha : a.1 < y.1.length) (hb : b.1 < y.1.length) (hf : fitB op y a b = true) : (opB op (bd y a) (bd y b)).1 ≤ opf op (vA σ a) (vA σ b) ∧ opf op (vA σ a) (vA σ b) ≤ (opB op (bd y a) (bd y b)).2 ∧ (tyB (isLo op)).1 ≤ (opB op (bd y a) (bd y b)).1 ∧ (opB op (bd y a) (bd y b)).2 ≤ (tyB (isLo op)).2 := by
  unfold fitB at hf
  simp only [Bool.and_eq_true, Bool.or_eq_true, decide_eq_true_eq] at hf
  obtain ⟨⟨f1, f2⟩, f3⟩ := hf
  have ba := bd_r h ha
  have bb := bd_r h hb
  have := opB_r (op := op) ba.1 ba.2 bb.1 bb.2 (fun e => by
    rcases f3 with f3 | f3
    · rw [f3] at e; cases e
    · unfold rg32; omega) f1 f2
  exact ⟨this.1, this.2, f1, f2⟩
theorem tyB_r (op : Nat) (a b : Int) : (tyB (isLo op)).1 ≤ opf op a b ∧ opf op a b ≤ (tyB (isLo op)).2 := by
  cases e : isLo op with
  | false =>
    have := opf_rg op a b (by unfold isLo at e; have := of_decide_eq_false e; omega)
    unfold rg32 at this
    unfold tyB
    dsimp only
    omega
  | true =>
    have := opf_rgL op a b
    unfold rg64 at this
    unfold tyB
    dsimp only
    omega
theorem opf_add {op : Nat} (ho : op = 0 ∨ op = 20) {a b : Int} (h1 : (tyB (isLo op)).1 ≤ a + b) (h2 : a + b ≤ (tyB (isLo op)).2) : opf op a b = a + b := by
  rcases ho with rfl | rfl
  · exact w32_id ⟨h1, by have : a + b ≤ 2147483647 := h2; omega⟩
  · exact w64_id ⟨h1, by have : a + b ≤ 9223372036854775807 := h2; omega⟩
theorem opf_sub {op : Nat} (ho : op = 1 ∨ op = 21) {a b : Int} (h1 : (tyB (isLo op)).1 ≤ a - b) (h2 : a - b ≤ (tyB (isLo op)).2) : opf op a b = a - b := by
  rcases ho with rfl | rfl
  · exact w32_id ⟨h1, by have : a - b ≤ 2147483647 := h2; omega⟩
  · exact w64_id ⟨h1, by have : a - b ≤ 9223372036854775807 := h2; omega⟩
theorem opB_add {op : Nat} (ho : op = 0 ∨ op = 20) (p q : Int × Int) : opB op p q = (p.1 + q.1, p.2 + q.2) := by rcases ho with rfl | rfl <;> rfl
theorem opB_sub {op : Nat} (ho : op = 1 ∨ op = 21) (p q : Int × Int) : opB op p q = (p.1 - q.2, p.2 - q.1) := by rcases ho with rfl | rfl <;> rfl
theorem eop_r (h : eY σ y g) {op : Nat} {a b : AE} (ha : a.1 < y.1.length) (hb : b.1 < y.1.length) : stpY σ y g (eop op y a b) (opf op (vA σ a) (vA σ b)) := by
  unfold eop
  split
  · rename_i h9
    refine stpY_now h h.1.1 ?_
    rw [k0_r h h9.1, k0_r h h9.2]
    exact k0_r h rfl
  · split
    · rename_i hf
      obtain ⟨f1, f2, f3, f4⟩ := fitB_r h ha hb hf
      have ba := bd_r h ha
      have bb := bd_r h hb
      split
      · rename_i h9
        rw [opB_add h9.1] at f3 f4
        dsimp only at f3 f4
        refine stpY_now h ha ?_
        rw [opf_add h9.1 (by omega) (by omega), k0_r h h9.2]
        simp only [vA]
        omega
      · split
        · rename_i h9
          rw [opB_add h9.1] at f3 f4
          dsimp only at f3 f4
          refine stpY_now h hb ?_
          rw [opf_add h9.1 (by omega) (by omega), k0_r h h9.2]
          simp only [vA]
          omega
        · split
          · rename_i h9
            rw [opB_sub h9.1] at f3 f4
            dsimp only at f3 f4
            refine stpY_now h ha ?_
            rw [opf_sub h9.1 (by omega) (by omega), k0_r h h9.2]
            simp only [vA]
            omega
          · split
            · rename_i h9
              rw [opB_sub h9.1] at f3 f4
              dsimp only at f3 f4
              refine stpY_now h h.1.1 ?_
              rw [opf_sub h9.1 (by omega) (by omega), k0_r h rfl]
              simp only [vA]
              rw [h9.2]
              omega
            · split
              · rename_i s hs
                obtain ⟨-, -, d3, d4⟩ := h.2.2.2.1 _ (findD_m hs)
                refine stpY_now h d3 ?_
                rw [vA0]
                exact d4
              · obtain ⟨σ', ag, hy, hz⟩ := frD_r h ha hb f1 f2
                have hl := frs_len (y := y) (lo := (opB op (bd y a) (bd y b)).1) (hi := (opB op (bd y a) (bd y b)).2) (ids := [])
                have hl2 : ((puD (frs y (opB op (bd y a) (bd y b)).1 (opB op (bd y a) (bd y b)).2 []) ((op, a, b), y.1.length))).1.length = y.1.length + 1 := hl
                split
                · rename_i ho
                  rw [opB_add ho] at f3 f4
                  dsimp only at f3 f4
                  have e := opf_add ho (a := vA σ a) (b := vA σ b) (by omega) (by omega)
                  have ev : vA σ a = σ a.1 + a.2 := rfl
                  have ea : σ' a.1 = σ a.1 := ag _ ha
                  have hy1 := puF_r (e := (a.1, y.1.length, a.2 + (bd y b).1)) hy (by dsimp only; omega) (by dsimp only; omega) (by dsimp only; rw [hz, e, ea]; omega)
                  have hy2 := puF_r (e := (y.1.length, a.1, -(a.2 + (bd y b).2))) hy1 (by show y.1.length < _; exact Nat.lt_of_lt_of_eq (Nat.lt_succ_self _) hl2.symm) (by show a.1 < _; exact Nat.lt_of_lt_of_eq (Nat.lt_succ_of_lt ha) hl2.symm) (by dsimp only; rw [hz, e, ea]; omega)
                  refine ⟨σ', ag, hy2, ?_, ?_, by rw [vA0]; exact hz⟩
                  · exact Nat.le_trans (Nat.le_succ _) (Nat.le_of_eq hl2.symm)
                  · exact Nat.lt_of_lt_of_eq (Nat.lt_succ_self _) hl2.symm
                · exact ⟨σ', ag, hy, Nat.le_trans (Nat.le_succ _) (Nat.le_of_eq hl2.symm), Nat.lt_of_lt_of_eq (Nat.lt_succ_self _) hl2.symm, by rw [vA0]; exact hz⟩
    · split
      · rename_i s hs
        obtain ⟨-, -, d3, d4⟩ := h.2.2.2.1 _ (findD_m hs)
        refine stpY_now h d3 ?_
        rw [vA0]
        exact d4
      · have ty := tyB_r op (vA σ a) (vA σ b)
        obtain ⟨σ', ag, hy, hz⟩ := frD_r h ha hb ty.1 ty.2
        have hl2 : ((puD (frs y (tyB (isLo op)).1 (tyB (isLo op)).2 []) ((op, a, b), y.1.length))).1.length = y.1.length + 1 := frs_len
        exact ⟨σ', ag, hy, Nat.le_trans (Nat.le_succ _) (Nat.le_of_eq hl2.symm), Nat.lt_of_lt_of_eq (Nat.lt_succ_self _) hl2.symm, by rw [vA0]; exact hz⟩
end
