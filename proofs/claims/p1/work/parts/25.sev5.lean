/-! part 21: the law's own way to its switch, and each case behind it -/
/-- from here to the place K of the law, on one way -/
def sevt (K : Nat) : Nat → Nat → BL → List BV → BH → GM → Option (GM × BL × List BV × BH)
  | 0, _, _, _, _, _ => none
  | n + 1, k, ls, st, h, Γ => if k = K then some (Γ, ls, st, h) else match (codeT 0)[k]? with
    | none => none
    | some (i, z, ns) =>
      if am_kind i ns = 0 then (match abr i ns k st Γ with
        | some ([q], st') => sevt K n q.2 ls st' h q.1
        | some _ => none
        | none => match astp i z ns k ls st h Γ with
          | none => none
          | some (k', ls', st', h') => sevt K n k' ls' st' h' Γ)
      else if am_kind i ns = 1 then (match bm_rcv (mX (ns.getD 0 0)) ns st h with
          | false => none
          | true => match sev n 999 (ns.getD 0 0) 0 (bm_ent (mX (ns.getD 0 0)) (st.take (ns.getD 1 0)).reverse) [] h Γ with
            | some [o] => if h.1 ≤ o.2.2.1 ∧ h.2.1 ≤ o.2.2.2.1 then sevt K n (k + 1) ls (o.2.1.toList ++ st.drop (ns.getD 1 0)) o.2.2 o.1 else none
            | _ => none)
      else none
theorem sevt_r {ρ : Nat → Int} {K : Nat} {Q : Option AV → AH → Prop} : ∀ (n k : Nat) (l : BL) (s : List BV) (h : BH) (Γ : GM) (q : GM × BL × List BV × BH), sevt K n k l s h Γ = some q → (∀ (ls : AL) (st : List AV) (g : AH), rG ρ q.1 → rZ (rO ρ) q.2.1 ls → rZ (rV ρ) q.2.2.1 st → rH ρ q.2.2.2 g → wp codeT mX 1000 0 K ls st g Q) → ∀ (ls : AL) (st : List AV) (g : AH), rG ρ Γ → rZ (rO ρ) l ls → rZ (rV ρ) s st → rH ρ h g → wp codeT mX 1000 0 k ls st g Q := by
  intro n
  induction n with
  | zero => intro k l s h Γ q e; cases e
  | succ n ih =>
    intro k l s h Γ q e HK ls st g hG hl hs hh
    rw [sevt] at e
    split at e
    · rename_i hk
      cases e
      subst hk
      exact HK ls st g hG hl hs hh
    · split at e
      · cases e
      · rename_i i z ns hf
        split at e
        · rename_i h0
          rw [wp_stp codeT mX hf h0]
          split at e
          · rename_i q1 s' hab
            obtain ⟨q2, m2, g2, t', q3, q4⟩ := abr_r (z := z) hs hG hab
            rw [List.mem_singleton.mp m2] at g2 q4
            rw [q4 ls g]
            exact ih _ _ _ _ _ _ e HK ls t' g g2 hl q3 hh
          · cases e
          · split at e
            · cases e
            · rename_i k' l' s' h' hst
              obtain ⟨ls2, st2, g2, e2, hl2, hs2, hh2⟩ := astp_r hl hs hh hG _ hst
              rw [e2]
              exact ih _ _ _ _ _ _ e HK ls2 st2 g2 hG hl2 hs2 hh2
        · rename_i h0
          split at e
          · rename_i h1
            rw [wp_call codeT mX (d := 999) hf h1]
            split at e
            · cases e
            · rename_i hrc
              refine ⟨rcv_r hs hh hrc, ?_⟩
              split at e
              · rename_i o1 hc
                refine wp_mono codeT mX (sev_r n _ _ _ _ _ _ _ _ hc _ [] g hG (ent_r _ (rZ_rev (rZ_take hs))) trivial hh) ?_
                rintro v g' ⟨o, om, o2, o3, o4⟩
                rw [List.mem_singleton.mp om] at o2 o3 o4
                split at e
                · rename_i hle
                  refine ⟨?_, ?_⟩
                  · rw [← o4.1, ← o4.2.1, ← hh.1, ← hh.2.1]
                    exact hle
                  · have hv : rZ (rV ρ) o1.2.1.toList v.toList := by
                      obtain ⟨oG, ov, oh⟩ := o1
                      match ov, v, o3 with
                      | none, none, _ => exact trivial
                      | some a, some b, o3 => exact ⟨o3, trivial⟩
                    exact ih _ _ _ _ _ _ e HK ls _ g' o2 hl (rZ_app hv (rZ_drop hs)) o4
                · cases e
              · cases e
          · cases e
def hB (L : Nat) : BH := (0, 0, (fun a => if a = 1000000 then (100, L) else if a = 1000001 then (999, 0) else (0, 0)), (fun a j => if a = 1000000 then (if j < 6 then (j, 1, 0, 0) else ck 0) else ck 0), (fun _ _ => 0), (fun _ _ => none))
def lwB : BL := [some (.inr (.inr (some 1000000))), none, none, none]
def GB : GM := List.replicate 6 (-2147483648, 2147483647)
def okO (outs : List OUT) : Bool := outs.all (fun o => (match o.2.1 with
    | some (.inl a) => decide (kc a = some 1)
    | _ => false) && decide (o.2.2.1 ≤ 600000) && decide (o.2.2.2.1 ≤ 7302250))
/-- a script that is too short for a call -/
def okB (n L : Nat) : Bool := match sev n 1000 0 0 lwB [] (hB L) GB with
  | some outs => okO outs
  | none => false
/-- one call, whose first int gives the case c -/
def okC (n : Nat) (c : AI) : Bool := match sevt 21 n 0 lwB [] (hB 6) GB with
  | some (Γ, l, [.inl a], h) => decide (a.2.1 = 0 ∧ -2147483648 ≤ a.2.2.1 ∧ a.2.2.2 < 2147483648) && (match sev n 1000 0 21 l [.inl c] h Γ with
    | some outs => okO outs
    | none => false)
  | _ => false
def QB : Option AV → AH → Prop := fun v g => v = some (.inl 1) ∧ g.1 ≤ 600000 ∧ g.2.1 ≤ 7302250
theorem okO_r {ρ : Nat → Int} {outs : List OUT} (h : okO outs = true) {v : Option AV} {g : AH} (ho : ∃ o ∈ outs, rG ρ o.1 ∧ rO ρ o.2.1 v ∧ rH ρ o.2.2 g) : QB v g := by
  obtain ⟨o, h1, -, h3, h4⟩ := ho
  have hc := List.all_eq_true.mp h o h1
  simp only [Bool.and_eq_true, decide_eq_true_eq] at hc
  obtain ⟨⟨c1, c2⟩, c3⟩ := hc
  refine ⟨?_, by rw [← h4.1]; exact c2, by rw [← h4.2.1]; exact c3⟩
  obtain ⟨oG, ov, oh⟩ := o
  match ov, v, h3, c1 with
  | some (.inl a), some (.inl z), h3, c1 =>
    have := kc_r (of_decide_eq_true c1) h3
    rw [this]
theorem hB_r {L : Nat} (hL : L ≤ 6) (xs : Nat → Int32) : rH (scX L xs) (hB L) (ov L (scX L xs) h00) := by
  refine ⟨rfl, rfl, fun a ha => ?_, fun a j ha hj => ?_, fun a j _ _ => rfl, fun a j _ _ => rfl⟩
  · show (if a = 1000000 then _ else _) = (if a = 1000000 then _ else _)
    rfl
  · show rI _ (if a = 1000000 then (if j < 6 then (j, 1, 0, 0) else ck 0) else ck 0) ((if a = 1000000 then scX L xs else fun _ => 0 : Nat → Int) j)
    split
    · rename_i h9
      subst h9
      have hj : j < L := hj
      rw [if_pos (by omega)]
      unfold rI
      rw [if_neg (show ¬ (1 : Int) = 0 by decide)]
      dsimp only
      omega
    · exact ck_r 0
theorem GB_r (L : Nat) (xs : Nat → Int32) : rG (scX L xs) GB := by
  intro j q h
  have : q = (-2147483648, 2147483647) := by
    have := List.mem_of_getElem? h
    exact List.eq_of_mem_replicate this
  subst this
  unfold scX
  split
  · have := r32 (xs j)
    unfold rg32 at this
    dsimp only
    omega
  · exact ⟨by decide, by decide⟩
theorem lw_r (ρ : Nat → Int) : rZ (rO ρ) lwB lwL := ⟨rfl, trivial, trivial, trivial, trivial⟩
theorem run_B {n L : Nat} (hL : L ≤ 6) (h : okB n L = true) (xs : Nat → Int32) : wp codeT mX 1000 0 0 lwL [] (ov L (scX L xs) h00) QB := by
  unfold okB at h
  split at h
  · rename_i outs e
    exact wp_mono codeT mX (sev_r (ρ := scX L xs) _ _ _ _ _ _ _ _ _ e lwL [] _ (GB_r L xs) (lw_r _) trivial (hB_r hL xs)) (fun v g ho => okO_r h ho)
  · cases h
theorem run_C {n : Nat} (xs : Nat → Int32) (hc : ∀ z : Int, rg32 z → ∃ c, rI (scX 6 xs) c z ∧ okC n c = true) : wp codeT mX 1000 0 0 lwL [] (ov 6 (scX 6 xs) h00) QB := by
  have key : ∀ c, okC n c = true → ∃ Γ l a h, sevt 21 n 0 lwB [] (hB 6) GB = some (Γ, l, [.inl a], h) ∧ (a.2.1 = 0 ∧ -2147483648 ≤ a.2.2.1 ∧ a.2.2.2 < 2147483648) ∧ ∃ outs, sev n 1000 0 21 l [.inl c] h Γ = some outs ∧ okO outs = true := by
    intro c h
    unfold okC at h
    split at h
    · rename_i Γ l a hh e
      rw [Bool.and_eq_true, decide_eq_true_eq] at h
      obtain ⟨h1, h2⟩ := h
      split at h2
      · rename_i outs e2
        exact ⟨Γ, l, a, hh, e, h1, outs, e2, h2⟩
      · cases h2
    · cases h
  obtain ⟨c0, -, h0⟩ := hc 0 rg0
  obtain ⟨Γ, l, a, h, e, ha, -⟩ := key c0 h0
  refine sevt_r (ρ := scX 6 xs) n 0 lwB [] (hB 6) GB _ e ?_ lwL [] _ (GB_r 6 xs) (lw_r _) trivial (hB_r (Nat.le_refl 6) xs)
  intro ls st g hG hl hs hh
  dsimp only at hG hl hs hh
  obtain ⟨z, t1, rfl, hz, hs1⟩ := rS_i hs
  rw [rZ_nil hs1]
  have hzr : rg32 z := by
    unfold rI at hz
    rw [if_pos ha.1] at hz
    unfold rg32
    omega
  obtain ⟨c, hcz, hok⟩ := hc z hzr
  obtain ⟨Γ2, l2, a2, h2, e2, -, outs, e3, h3⟩ := key c hok
  rw [e] at e2
  cases e2
  exact wp_mono codeT mX (sev_r (ρ := scX 6 xs) _ _ _ _ _ _ _ _ _ e3 ls [.inl z] g hG hl ⟨hcz, trivial⟩ hh) (fun v g9 ho => okO_r h3 ho)
