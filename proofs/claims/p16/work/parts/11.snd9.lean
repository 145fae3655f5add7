/-! part 9: nothing is lost: the cells only grow -/
def grow (h : AH) (o : AR) : Prop := ∀ q, o = some q → h.1 ≤ q.2.2.2.1 ∧ h.2.1 ≤ q.2.2.2.2.1
theorem grow_n {h : AH} : grow h none := fun q e => by cases e
theorem grow_s {h : AH} {k : Nat} {ls : AL} {st : List AV} {h' : AH} (h1 : h.1 ≤ h'.1) (h2 : h.2.1 ≤ h'.2.1) : grow h (some (k, ls, st, h')) := fun q e => by cases e; exact ⟨h1, h2⟩
theorem grow_r {h : AH} {k : Nat} {ls : AL} {st : List AV} : grow h (some (k, ls, st, h)) := grow_s (Nat.le_refl _) (Nat.le_refl _)
theorem grow_g {h : AH} {c : Prop} [Decidable c] {x : AR} (hx : grow h x) : grow h (am_g c x) := fun q e => hx q (am_g_some e).2
theorem grow_i {h : AH} {c : Prop} [Decidable c] {x y : AR} (hx : grow h x) (hy : grow h y) : grow h (am_if c x y) := by
  unfold am_if
  split
  · exact hx
  · exact hy
theorem grow_sw {h : AH} {x : Int} {ls : AL} {st : List AV} {d : Nat} : ∀ l, grow h (am_sw x ls st h d l)
  | [] => grow_r
  | _ :: r => grow_i grow_r (grow_sw r)
theorem grow_br {h : AH} {co : ClassFile.Cond} {a b : Int} {t k : Nat} {ls : AL} {st : List AV} : grow h (am_br co a b t k ls st h) := by
  cases co <;> exact grow_i grow_r grow_r
theorem grow_newo {h : AH} {tag n k : Nat} {ls : AL} {st : List AV} : grow h (am_newo tag n k ls st h) := by
  obtain ⟨a, b, T, I, J, R⟩ := h
  exact grow_g (grow_s (Nat.le_succ _) (Nat.le_add_right _ _))
theorem stp_grow {i : Instr} {z : Int} {ns : List Nat} {k : Nat} {ls : AL} {st : List AV} {h : AH} : grow h (stp i z ns k ls st h) := by
  obtain ⟨a, b, T, I, J, R⟩ := h
  cases i <;> simp only [stp, am_bin, am_div, am_binL, am_divL, am_shL, am_ldI, am_ldL, am_ldA, am_stI, am_stL, am_stA, am_newa, am_newm, am_ald, am_aldL, am_aldA, am_ast, am_astZ, am_astL, am_astA, am_len, am_get, am_put, am_getS, am_aldS, am_lenS] <;> (repeat' (first | exact grow_n | exact grow_r | exact grow_sw _ | exact grow_br | exact grow_newo | apply grow_g | (exact grow_s (Nat.le_refl _) (Nat.le_refl _)) | (exact grow_s (by dsimp only; omega) (by dsimp only; omega)) | (refine grow_s (by dsimp only; omega) ?_; dsimp only; rw [Nat.add_assoc]; exact Nat.le_add_right _ _) | split))
section
variable (code : Nat → List Ins) (mxl : Nat → Nat)
theorem ev_grow : ∀ (n d m k : Nat) (ls : AL) (st : List AV) (h : AH) (v : Option AV) (h' : AH), ev code mxl n d m k ls st h = some (v, h') → h.1 ≤ h'.1 ∧ h.2.1 ≤ h'.2.1 := by
  intro n
  induction n with
  | zero =>
    intro d m k ls st h v h' e
    cases e
  | succ n ih =>
    intro d m k ls st h v h' e
    cases hf : (code m)[k]? with
    | none => rw [ev_n code mxl hf] at e; cases e
    | some q =>
      obtain ⟨i, z, ns⟩ := q
      by_cases h0 : am_kind i ns = 0
      · rw [ev_0 code mxl hf h0] at e
        cases hs : stp i z ns k ls st h with
        | none => rw [hs] at e; cases e
        | some q =>
          obtain ⟨k', ls', st', h2⟩ := q
          rw [hs] at e
          have g1 := stp_grow _ hs
          have g2 := ih _ _ _ _ _ _ _ _ e
          dsimp only at g1
          omega
      · by_cases h1 : am_kind i ns = 1
        · cases d with
          | zero => rw [ev_10 code mxl hf h1] at e; cases e
          | succ d =>
            rw [ev_1 code mxl hf h1] at e
            cases hr : am_rcv (mxl (ns.getD 0 0)) ns st h with
            | false => rw [hr] at e; cases e
            | true =>
              rw [hr] at e
              dsimp only at e
              cases hc : ev code mxl n d (ns.getD 0 0) 0 (am_ent (mxl (ns.getD 0 0)) (st.take (ns.getD 1 0)).reverse) [] h with
              | none => rw [hc] at e; cases e
              | some q =>
                obtain ⟨v1, h2⟩ := q
                rw [hc] at e
                dsimp only at e
                split at e
                · rename_i h9
                  have g2 := ih _ _ _ _ _ _ _ _ e
                  omega
                · cases e
        · rw [ev_2 code mxl hf h0 h1] at e
          split at e
          · cases e
          · cases e
            exact ⟨Nat.le_refl _, Nat.le_refl _⟩
end
