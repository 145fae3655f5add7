/-! the engine, 21: the heap behind the constructors -/
def inI (a j : Nat) (v : Int) : Bool := decide ((bI a j).1 ≤ v) && decide (v ≤ (bI a j).2)
def inRf (a j v : Nat) : Bool := decide (bR a j = []) || (bR a j).any (fun i => decide (i = v))
def in64 (v : Int) : Bool := decide (-9223372036854775808 ≤ v) && decide (v ≤ 9223372036854775807)
/-- a write as the tables have it -/
def okW (i : Instr) (ns : List Nat) (st : List AV) (h : AH) : Bool := match i with
  | .iastore => match st with
    | .inl v :: .inl j :: .inr (.inr (some a)) :: _ => inI a j.toNat v
    | _ => false
  | .bastore => match st with
    | .inl v :: .inl j :: .inr (.inr (some a)) :: _ => inI a j.toNat v && inI a j.toNat (w8 v)
    | _ => false
  | .lastore => match st with
    | .inr (.inl v) :: _ => in64 v
    | _ => false
  | .aastore => match st with
    | .inr (.inr (some v)) :: .inl j :: .inr (.inr (some a)) :: _ => inRf a j.toNat v
    | _ => false
  | .putfield _ => match st with
    | .inl v :: .inr (.inr (some a)) :: _ => inI a (ns.getD 1 0) v
    | .inr (.inl v) :: _ => in64 v
    | .inr (.inr (some v)) :: .inr (.inr (some a)) :: _ => inRf a (ns.getD 1 0) v
    | _ => false
  | .new _ => decide (tT.getD h.1 (0, 0) = (ns.getD 0 0, ns.getD 1 0))
  | .newarray _ | .anewarray _ => match st with
    | .inl z :: _ => decide (tT.getD h.1 (0, 0) = (ns.getD 0 0, z.toNat))
    | _ => false
  | .multianewarray _ _ => match st with
    | .inl z :: .inl y :: _ => decide (tT.getD h.1 (0, 0) = (ns.getD 0 0, y.toNat)) && (List.range y.toNat).all (fun j => decide (tT.getD (h.1 + 1 + j) (0, 0) = (ns.getD 1 0, z.toNat)) && inRf h.1 j (h.1 + 1 + j))
    | _ => false
  | _ => true
def invH (h : AH) : Prop := (∀ a, a < h.1 → h.2.2.1 a = tT.getD a (0, 0)) ∧ (∀ a j, a < h.1 → (bI a j).1 ≤ h.2.2.2.1 a j ∧ h.2.2.2.1 a j ≤ (bI a j).2) ∧ (∀ a j, -9223372036854775808 ≤ h.2.2.2.2.1 a j ∧ h.2.2.2.2.1 a j ≤ 9223372036854775807) ∧ (∀ a j i, a < h.1 → h.2.2.2.2.2 a j = some i → bR a j = [] ∨ i ∈ bR a j)
theorem bI0A : tI.all (fun l => l.all (fun p => decide (p.1 ≤ 0) && decide (0 ≤ p.2))) = true := by decide +kernel
theorem bI0 (a j : Nat) : (bI a j).1 ≤ 0 ∧ 0 ≤ (bI a j).2 := by
  unfold bI
  rw [List.getD_eq_getElem?_getD, List.getD_eq_getElem?_getD]
  cases h1 : tI[a]? with
  | none => exact ⟨by show (-2147483648 : Int) ≤ 0; decide, by show (0 : Int) ≤ 2147483647; decide⟩
  | some l =>
    dsimp only [Option.getD_some]
    generalize (if 100 ≤ (tT.getD a (0, 0)).1 then 0 else j) = q
    cases h2 : l[q]? with
    | none => decide
    | some p =>
      have h3 := List.all_eq_true.mp (List.all_eq_true.mp bI0A l (List.mem_of_getElem? h1)) p (List.mem_of_getElem? h2)
      rw [Bool.and_eq_true, decide_eq_true_eq, decide_eq_true_eq] at h3
      exact h3
def kI (h : AH) (o : AR) : Prop := ∀ q, o = some q → invH h → invH q.2.2.2
section
variable {h : AH} {k : Nat} {ls : AL} {st : List AV} {ns : List Nat}
theorem kI_n : kI h none := fun q e => by cases e
theorem kI_r : kI h (some (k, ls, st, h)) := fun q e hi => by cases e; exact hi
theorem kI_g {c : Prop} [Decidable c] {x : AR} (hx : c → kI h x) : kI h (am_g c x) := fun q e => hx (am_g_some e).1 q (am_g_some e).2
theorem kI_i {c : Prop} [Decidable c] {x y : AR} (hx : kI h x) (hy : kI h y) : kI h (am_if c x y) := by
  unfold am_if
  split
  · exact hx
  · exact hy
theorem kI_sw {x : Int} {d : Nat} : ∀ l, kI h (am_sw x ls st h d l)
  | [] => kI_r
  | _ :: r => kI_i kI_r (kI_sw r)
theorem kI_br {co : ClassFile.Cond} {a b : Int} {t : Nat} : kI h (am_br co a b t k ls st h) := by
  cases co <;> exact kI_i kI_r kI_r
theorem inI_r {a j : Nat} {v : Int} (hc : inI a j v = true) : (bI a j).1 ≤ v ∧ v ≤ (bI a j).2 := by
  unfold inI at hc
  rw [Bool.and_eq_true, decide_eq_true_eq, decide_eq_true_eq] at hc
  exact hc
theorem in64_r {v : Int} (hc : in64 v = true) : -9223372036854775808 ≤ v ∧ v ≤ 9223372036854775807 := by
  unfold in64 at hc
  rw [Bool.and_eq_true, decide_eq_true_eq, decide_eq_true_eq] at hc
  exact hc
theorem inRf_r {a j v : Nat} (hc : inRf a j v = true) : bR a j = [] ∨ v ∈ bR a j := by
  unfold inRf at hc
  rw [Bool.or_eq_true, decide_eq_true_eq] at hc
  rcases hc with hc | hc
  · exact Or.inl hc
  · obtain ⟨i, m, e⟩ := List.any_eq_true.mp hc
    rw [← of_decide_eq_true e]
    exact Or.inr m
theorem inv_I {c s : Nat} {T : Nat → Nat × Nat} {I J : Nat → Nat → Int} {R : Nat → Nat → Option Nat} {a j : Nat} {v : Int} (hi : invH (c, s, T, I, J, R)) (hv : inI a j v = true) : invH (c, s, T, up2 I a j v, J, R) := by
  refine ⟨hi.1, fun x z hx => ?_, hi.2.2.1, hi.2.2.2⟩
  show (bI x z).1 ≤ up2 I a j v x z ∧ up2 I a j v x z ≤ (bI x z).2
  unfold up2
  split
  · rename_i e
    rw [e.1, e.2]
    exact inI_r hv
  · exact hi.2.1 x z hx
theorem inv_J {c s : Nat} {T : Nat → Nat × Nat} {I J : Nat → Nat → Int} {R : Nat → Nat → Option Nat} {a j : Nat} {v : Int} (hi : invH (c, s, T, I, J, R)) (hv : in64 v = true) : invH (c, s, T, I, up2 J a j v, R) := by
  refine ⟨hi.1, hi.2.1, fun x z => ?_, hi.2.2.2⟩
  show _ ≤ up2 J a j v x z ∧ up2 J a j v x z ≤ _
  unfold up2
  split
  · exact in64_r hv
  · exact hi.2.2.1 x z
theorem inv_R {c s : Nat} {T : Nat → Nat × Nat} {I J : Nat → Nat → Int} {R : Nat → Nat → Option Nat} {a j v : Nat} (hi : invH (c, s, T, I, J, R)) (hv : inRf a j v = true) : invH (c, s, T, I, J, up2 R a j (some v)) := by
  refine ⟨hi.1, hi.2.1, hi.2.2.1, fun x z i hx => ?_⟩
  show up2 R a j (some v) x z = some i → _
  unfold up2
  split
  · rename_i e
    intro e2
    cases e2
    rw [e.1, e.2]
    exact inRf_r hv
  · exact hi.2.2.2 x z i hx
theorem kI_newo {tag n : Nat} (hc : tT.getD h.1 (0, 0) = (tag, n)) : kI h (am_newo tag n k ls st h) := by
  obtain ⟨c, s, T, I, J, R⟩ := h
  refine kI_g (fun _ q e hi => ?_)
  cases e
  refine ⟨fun a ha => ?_, fun a j ha => ?_, fun a j => ?_, fun a j i ha => ?_⟩
  · have ha : a < c + 1 := ha
    show up1 T c (tag, n) a = _
    unfold up1
    split
    · rename_i e; rw [e]; exact hc.symm
    · exact hi.1 a (by show a < c; omega)
  · have ha : a < c + 1 := ha
    show _ ≤ (if a = c then fun _ => 0 else I a : Nat → Int) j ∧ (if a = c then fun _ => 0 else I a : Nat → Int) j ≤ _
    split
    · exact bI0 a j
    · exact hi.2.1 a j (by show a < c; omega)
  · show _ ≤ (if a = c then fun _ => 0 else J a : Nat → Int) j ∧ (if a = c then fun _ => 0 else J a : Nat → Int) j ≤ _
    split
    · exact ⟨by show (-9223372036854775808 : Int) ≤ 0; decide, by show (0 : Int) ≤ 9223372036854775807; decide⟩
    · exact hi.2.2.1 a j
  · have ha : a < c + 1 := ha
    show (if a = c then fun _ => none else R a : Nat → Option Nat) j = some i → _
    split
    · intro e; cases e
    · exact hi.2.2.2 a j i (by show a < c; omega)
theorem kI_newm {tag tag2 : Nat} {ix d : Nat} (hns : ns.getD 0 0 = tag) (hns2 : ns.getD 1 0 = tag2) (hc : okW (.multianewarray ix d) ns st h = true) : kI h (am_newm tag tag2 k ls st h) := by
  obtain ⟨c, s, T, I, J, R⟩ := h
  subst hns hns2
  unfold am_newm
  split
  · rename_i z y st
    simp only [okW, Bool.and_eq_true, decide_eq_true_eq, List.all_eq_true, List.mem_range] at hc
    obtain ⟨hc1, hc2⟩ := hc
    refine kI_g (fun _ q e hi => ?_)
    cases e
    refine ⟨fun a ha => ?_, fun a j ha => ?_, fun a j => ?_, fun a j i ha => ?_⟩
    · have ha : a < c + 1 + y.toNat := ha
      dsimp only
      split
      · rename_i e; rw [e]; exact hc1.symm
      · split
        · have := (hc2 (a - (c + 1)) (by omega)).1
          rw [show c + 1 + (a - (c + 1)) = a by omega] at this
          exact this.symm
        · exact hi.1 a (by show a < c; omega)
    · have ha : a < c + 1 + y.toNat := ha
      dsimp only
      split
      · exact bI0 a j
      · exact hi.2.1 a j (by show a < c; omega)
    · dsimp only
      split
      · exact ⟨by show (-9223372036854775808 : Int) ≤ 0; decide, by show (0 : Int) ≤ 9223372036854775807; decide⟩
      · exact hi.2.2.1 a j
    · have ha : a < c + 1 + y.toNat := ha
      dsimp only
      split
      · rename_i e
        dsimp only
        split
        · rename_i hj
          intro e2
          cases e2
          have := (hc2 j hj).2
          rw [e]
          exact inRf_r this
        · intro e2; cases e2
      · split
        · intro e2; cases e2
        · exact hi.2.2.2 a j i (by show a < c; omega)
  · exact kI_n
theorem stp_inv {i : Instr} {z : Int} (hc : okW i ns st h = true) : kI h (stp i z ns k ls st h) := by
  cases i with
  | new ix => exact kI_newo (by simpa [okW] using hc)
  | newarray t =>
    simp only [stp, am_newa]
    split
    · exact kI_g (fun _ => kI_newo (by simpa [okW] using hc))
    · exact kI_n
  | anewarray t =>
    simp only [stp, am_newa]
    split
    · exact kI_g (fun _ => kI_newo (by simpa [okW] using hc))
    · exact kI_n
  | multianewarray ix d => exact kI_newm rfl rfl hc
  | iastore =>
    obtain ⟨c, s, T, I, J, R⟩ := h
    simp only [stp, am_ast]
    split
    · simp only [okW] at hc
      exact kI_g (fun _ q e hi => by cases e; exact inv_I hi hc)
    · exact kI_n
  | bastore =>
    obtain ⟨c, s, T, I, J, R⟩ := h
    simp only [stp, am_ast, am_astZ]
    split
    · split
      · simp only [okW, Bool.and_eq_true] at hc
        exact kI_g (fun _ q e hi => by cases e; exact inv_I hi hc.2)
      · exact kI_n
    · split
      · simp only [okW, Bool.and_eq_true] at hc
        exact kI_g (fun _ q e hi => by cases e; exact inv_I hi hc.1)
      · exact kI_n
  | lastore =>
    obtain ⟨c, s, T, I, J, R⟩ := h
    simp only [stp, am_astL]
    split
    · simp only [okW] at hc
      exact kI_g (fun _ q e hi => by cases e; exact inv_J hi hc)
    · exact kI_n
  | aastore =>
    obtain ⟨c, s, T, I, J, R⟩ := h
    simp only [stp, am_astA]
    split
    · simp only [okW] at hc
      exact kI_g (fun _ q e hi => by cases e; exact inv_R hi hc)
    · exact kI_n
  | putfield ix =>
    obtain ⟨c, s, T, I, J, R⟩ := h
    simp only [stp, am_put]
    split
    · split
      · simp only [okW] at hc
        exact kI_g (fun _ q e hi => by cases e; exact inv_I hi hc)
      · exact kI_n
    · split
      · simp only [okW] at hc
        exact kI_g (fun _ q e hi => by cases e; exact inv_J hi hc)
      · exact kI_n
    · split
      · simp only [okW] at hc
        exact kI_g (fun _ q e hi => by cases e; exact inv_R hi hc)
      · exact kI_n
    · split
      · simp only [okW] at hc
        exact kI_g (fun _ q e hi => by cases e; exact inv_I hi hc)
      · exact kI_n
  | _ =>
    clear hc
    obtain ⟨c, s, T, I, J, R⟩ := h
    simp only [stp, am_bin, am_div, am_binL, am_divL, am_shL, am_ldI, am_ldL, am_ldA, am_stI, am_stL, am_stA, am_ald, am_aldL, am_aldA, am_len, am_get, am_getS, am_aldS, am_lenS] <;> (repeat' (first | exact kI_n | exact kI_sw _ | exact kI_br | exact kI_r | (refine kI_g (fun _ => ?_)) | split))
end
/-- a run whose writes are watched -/
def evm : Nat → Nat → Nat → Nat → AL → List AV → AH → Option (Option AV × AH)
  | 0, _, _, _, _, _, _ => none
  | n + 1, d, m, k, ls, st, h => match (codeT m)[k]? with
    | none => none
    | some (i, z, ns) =>
      if am_kind i ns = 0 then (if okW i ns st h = true then (match stp i z ns k ls st h with
        | none => none
        | some q => evm n d m q.1 q.2.1 q.2.2.1 q.2.2.2) else none)
      else if am_kind i ns = 1 then (match d with
        | 0 => none
        | d + 1 => match am_rcv (mX (ns.getD 0 0)) ns st h with
          | false => none
          | true => match evm n d (ns.getD 0 0) 0 (am_ent (mX (ns.getD 0 0)) (st.take (ns.getD 1 0)).reverse) [] h with
            | none => none
            | some q => if h.1 ≤ q.2.1 ∧ h.2.1 ≤ q.2.2.1 then evm n (d + 1) m (k + 1) ls (q.1.toList ++ st.drop (ns.getD 1 0)) q.2 else none)
      else (match am_ret i ns st with
        | none => none
        | some v => some (v, h))
theorem evm_r : ∀ (n d m k : Nat) (ls : AL) (st : List AV) (h : AH) (r : Option AV × AH), evm n d m k ls st h = some r → ev codeT mX n d m k ls st h = some r ∧ (invH h → invH r.2) := by
  intro n
  induction n with
  | zero => intro d m k ls st h r e; cases e
  | succ n ih =>
    intro d m k ls st h r e
    rw [evm] at e
    split at e
    · cases e
    · rename_i i z ns hf
      split at e
      · rename_i h0
        split at e
        · rename_i hw
          split at e
          · cases e
          · rename_i q hs
            obtain ⟨e1, e2⟩ := ih _ _ _ _ _ _ _ e
            refine ⟨?_, fun hi => e2 (stp_inv hw q hs hi)⟩
            rw [ev_0 codeT mX hf h0, hs]
            exact e1
        · cases e
      · rename_i h0
        split at e
        · rename_i h1
          split at e
          · cases e
          · rename_i d'
            split at e
            · cases e
            · rename_i hr
              split at e
              · cases e
              · rename_i q hq
                split at e
                · rename_i hle
                  obtain ⟨e1, e2⟩ := ih _ _ _ _ _ _ _ hq
                  obtain ⟨e3, e4⟩ := ih _ _ _ _ _ _ _ e
                  refine ⟨?_, fun hi => e4 (e2 hi)⟩
                  obtain ⟨v1, g1⟩ := q
                  rw [ev_1 codeT mX hf h1, hr]
                  dsimp only
                  rw [e1]
                  dsimp only
                  rw [if_pos hle]
                  exact e3
                · cases e
        · rename_i h1
          split at e
          · cases e
          · rename_i v hv
            cases e
            refine ⟨?_, fun hi => hi⟩
            rw [ev_2 codeT mX hf h0 h1, hv]
