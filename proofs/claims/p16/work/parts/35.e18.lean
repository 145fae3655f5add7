/-! the engine, 19: the walk is sound -/
def frR (σ : Nat → Int) (N : Nat) (f : FR) (a : AF) : Prop := f.1 = a.1 ∧ f.2.1 = a.2.1 ∧ rZ (eL σ N) f.2.2.1 a.2.2.1 ∧ rZ (eV σ N) f.2.2.2 a.2.2.2
/-- what comes behind a call in place -/
def kon (g0 : AH) (Q : Option AV → AH → Prop) : Nat → List AF → Option AV → AH → Prop
  | _, [], v, g => Q v g
  | d, f :: fs, v, g => (g0.1 ≤ g.1 ∧ g0.2.1 ≤ g.2.1) ∧ wp codeT mX (d + 1) f.1 (f.2.1 + 1) f.2.2.1 (v.toList ++ f.2.2.2) g (kon g0 Q (d + 1) fs)
def retP (p : Option EP) (v : Option AV) : Prop := match p, v with
  | none, none => True
  | some p, some w => pV p w
  | _, _ => False
def conQ (C : CON) (g0 : AH) : Option AV → AH → Prop := fun v g => retP C.2.2.1 v ∧ eH g ∧ eM C.2.2.2.1 g0 g
def conS (C : CON) : Prop := ∀ (g : AH) (ls : AL), eH g → scr g → cutP C.2.1 ls g → ∀ d, C.2.2.2.2.1 ≤ d → wp codeT mX d C.1 0 ls [] g (conQ C g)
theorem frR_ag {σ σ' : Nat → Int} {N N' : Nat} (ag : agree σ σ' N) (hle : N ≤ N') {f : FR} {a : AF} (h : frR σ N f a) : frR σ' N' f a := ⟨h.1, h.2.1, rZ_imp (fun a b h => eL_ag ag hle h) h.2.2.1, rZ_imp (fun a b h => eV_ag ag hle h) h.2.2.2⟩
theorem fitR_r {σ : Nat → Int} {y : EY} {g : AH} (h : eY σ y g) {p : Option EP} {v : Option EV} {w : Option AV} (hv : eR σ y.1.length v w) (hf : fitR y p v = true) : retP p w := by
  match p, v, w, hv, hf with
  | none, none, none, _, _ => exact trivial
  | some p, some v, some w, hv, hf =>
    have := fitP_r h hv.1 hf
    rw [← hv.2] at this
    exact this
set_option maxHeartbeats 1000000 in
theorem walk_r {K : Nat → List CON} {C : CON} {old : Option MS} {L mu : Nat} {g0 : AH} (hK : ∀ m, ∀ c ∈ K m, c.1 = m ∧ conS c) (h0 : scr g0) (hL : (g0.2.2.1 1000000).2 = L) (hM0 : idsM C.2.2.2.1 = true)
    (hcut : ∀ c ∈ C.2.2.2.2.2, ∀ (g : AH) (m : AL), eH g → eM C.2.2.2.1 g0 g → cutP c m g → (old = none ∨ meas c m < mu) → ∀ d, C.2.2.2.2.1 ≤ d → wp codeT mX d C.1 c.1 m [] g (conQ C g0)) :
    ∀ (n : Nat) (fs : List FR) (m k : Nat) (ls : EL) (st : List EV) (y : EY) (first : Bool), walk K C old n fs m k ls st y first = true → ∀ {σ : Nat → Int} {g : AH} {afs : List AF} {als : AL} {ast : List AV} {d : Nat}, eY σ y g → eH g → eM C.2.2.2.1 g0 g → 1 < y.1.length → σ 1 = L → (∀ os, old = some os → (∀ q ∈ os, q.2.1 < y.1.length) ∧ lexV (os.map (vM σ)) = mu) → rZ (frR σ y.1.length) fs afs → rZ (eL σ y.1.length) ls als → rZ (eV σ y.1.length) st ast → C.2.2.2.2.1 ≤ d + fs.length → wp codeT mX d m k als ast g (kon g0 (conQ C g0) d afs) := by
  intro n
  induction n with
  | zero =>
    intro fs m k ls st y first hw
    cases hw
  | succ n ih =>
    intro fs m k ls st y first hw σ g afs als ast d hY hH hM h1 hS ho hfs hl hs hd
    -- a step of the engine, by its picture
    have step : ∀ {o : ER} {i : Instr} {z : Int} {ns : List Nat} {q : Nat × EL × List EV × EY}, (codeT m)[k]? = some (i, z, ns) → am_kind i ns = 0 → SE σ y C.2.2.2.1 g0 o (stp i z ns k als ast g) → o = some q → walk K C old n fs m q.1 q.2.1 q.2.2.1 q.2.2.2 false = true → wp codeT mX d m k als ast g (kon g0 (conQ C g0) d afs) := by
      intro o i z ns q hf hk hSE hq hw2
      obtain ⟨σ', als', ast', g', e1, ag, hle, hY', hH', hM', hl', hs'⟩ := hSE q hq
      refine (wp_stp codeT mX hf hk).mpr ?_
      rw [e1]
      refine ih fs m q.1 q.2.1 q.2.2.1 q.2.2.2 false hw2 hY' hH' hM' (Nat.lt_of_lt_of_le h1 hle) (by rw [ag 1 h1]; exact hS) (fun os e => ?_) (rZ_imp (fun a b h => frR_ag ag hle h) hfs) hl' hs' hd
      obtain ⟨o1, o2⟩ := ho os e
      exact ⟨fun q hq => Nat.lt_of_lt_of_le (o1 q hq) hle, by rw [vM_ag ag o1]; exact o2⟩
    rw [walk] at hw
    split at hw
    · rename_i hc
      obtain ⟨c1, c2, c3, c4⟩ := hc
      rw [Bool.and_eq_true] at hw
      obtain ⟨w1, w2⟩ := hw
      obtain ⟨c, mc, w2⟩ := List.any_eq_true.mp w2
      simp only [Bool.and_eq_true, decide_eq_true_eq] at w2
      obtain ⟨w2, w3, w4⟩ := w2
      have e1 := List.isEmpty_iff.mp w1
      have e2 := List.isEmpty_iff.mp c2
      subst e1 e2
      rw [rZ_nil hs, rZ_nil hfs, c3, ← w2]
      refine hcut c mc g als hH hM (fitU_r hY hl w3) ?_ d (by simpa using hd)
      rcases decC_r hY hl w4 with h5 | ⟨os, h5, h6⟩
      · exact Or.inl h5
      · obtain ⟨o1, o2⟩ := ho os h5
        rw [← o2]
        exact Or.inr (h6 o1)
    · split at hw
      · cases hw
      · rename_i i z ns hf
        split at hw
        · rename_i hk
          split at hw
          · rename_i l st' hb
            obtain ⟨q, mq, hY', n', t', hs', hst⟩ := ebr_r (z := z) hY hs hb
            have n' : q.1.1.length = y.1.length := n'
            have hw2 := List.all_eq_true.mp hw q mq
            refine (wp_stp codeT mX hf hk).mpr ?_
            rw [hst als]
            exact ih fs m q.2 ls st' q.1 false hw2 hY' hH hM (by omega) hS (fun os e => by rw [n']; exact ho os e) (by rw [n']; exact hfs) (by rw [n']; exact hl) (by rw [n']; exact hs') hd
          · split at hw
            · rename_i q hq
              have hS2 : σ 1 = (g.2.2.1 1000000).2 := by rw [hM.2.2.1, hL]; exact hS
              exact step hf hk (esc_r hY hH hM (scr_M hM0 hM h0) h1 hS2 hl hs) hq hw
            · split at hw
              · rename_i q hq
                exact step hf hk (est_r hY hH hM hl hs) hq hw
              · cases hw
        · split at hw
          · rename_i hk
            split at hw
            · rename_i hrc
              have hrcv := em_rcv_r hY hH hs hrc
              have hent := em_ent_r (mX (ns.getD 0 0)) (rZ_rev (rZ_take (n := ns.getD 1 0) hs))
              have hdr := rZ_drop (n := ns.getD 1 0) hs
              split at hw
              · rename_i c hc
                rw [Bool.and_eq_true, Bool.and_eq_true, decide_eq_true_eq] at hw
                obtain ⟨w1, w2, w3⟩ := hw
                obtain ⟨hcm, hcS⟩ := hK _ c (List.mem_of_find?_eq_some hc)
                have hfit := List.find?_some hc
                obtain ⟨d, rfl⟩ : ∃ d', d = d' + 1 := ⟨d - 1, by omega⟩
                refine (wp_call codeT mX hf hk).mpr ⟨hrcv, ?_⟩
                unfold wpc
                have hcall := hcS g _ hH (scr_M hM0 hM h0) (fitU_r hY hent hfit) d (by omega)
                rw [hcm] at hcall
                refine wp_mono codeT mX hcall (fun v g' hq => ?_)
                obtain ⟨r1, r2, r3⟩ := hq
                have hM' := eM_tr hM r3 w2
                refine ⟨⟨Nat.le_of_eq r3.1.symm, Nat.le_of_eq r3.2.1.symm⟩, ?_⟩
                have hY' := kilM_r hY r3
                have hd' : C.2.2.2.2.1 ≤ d + 1 + fs.length := hd
                unfold ansR at w3
                cases hp : c.2.2.1 with
                | none =>
                  rw [hp] at r1 w3
                  match v, r1 with
                  | none, _ => exact ih fs m (k + 1) ls _ _ false w3 hY' r2 hM' h1 hS ho hfs hl hdr hd'
                | some p =>
                  rw [hp] at r1 w3
                  match v, r1 with
                  | some v, r1 =>
                    obtain ⟨σ', ag, hy2, hle, hv2⟩ := iniV_r hY' (p := p) r1
                    have hle : y.1.length ≤ (iniV p (kilM c.2.2.2.1 y)).2.1.length := hle
                    refine ih fs m (k + 1) ls _ _ false w3 hy2 r2 hM' (Nat.lt_of_lt_of_le h1 hle) (by rw [ag 1 h1]; exact hS) (fun os e => ?_) (rZ_imp (fun a b h => frR_ag ag hle h) hfs) (rZ_imp (fun a b h => eL_ag ag hle h) hl) ⟨hv2, rZ_imp (fun a b h => eV_ag ag hle h) hdr⟩ hd'
                    obtain ⟨o1, o2⟩ := ho os e
                    exact ⟨fun q hq => Nat.lt_of_lt_of_le (o1 q hq) hle, by rw [vM_ag ag o1]; exact o2⟩
              · rw [Bool.and_eq_true, decide_eq_true_eq] at hw
                obtain ⟨w1, w2⟩ := hw
                obtain ⟨d, rfl⟩ : ∃ d', d = d' + 1 := ⟨d - 1, by omega⟩
                refine (wp_call codeT mX hf hk).mpr ⟨hrcv, ?_⟩
                unfold wpc
                have h9 := ih ((m, k, ls, st.drop (ns.getD 1 0)) :: fs) (ns.getD 0 0) 0 _ [] y false w2 (afs := (m, k, als, ast.drop (ns.getD 1 0)) :: afs) (ast := []) (d := d) hY hH hM h1 hS ho ⟨⟨rfl, rfl, hl, hdr⟩, hfs⟩ hent trivial (by rw [List.length_cons]; omega)
                refine wp_mono codeT mX h9 (fun v g' hq => ?_)
                obtain ⟨⟨q1, q2⟩, q3⟩ := hq
                exact ⟨⟨by rw [hM.1]; exact q1, by rw [hM.2.1]; exact q2⟩, q3⟩
            · cases hw
          · split at hw
            · cases hw
            · rename_i v hv
              obtain ⟨hk, w, hw1, hw2⟩ := em_ret_r hY hs hv
              refine (wp_ret codeT mX hf hk).mpr ⟨w, hw1, ?_⟩
              split at hw
              · rw [rZ_nil hfs]
                exact ⟨fitR_r hY hw2 hw, hH, hM⟩
              · rename_i f fs' hx
                obtain ⟨a, afs', rfl, ⟨a1, a2, a3, a4⟩, hfs'⟩ := rZ_cons hfs
                refine ⟨⟨Nat.le_of_eq hM.1.symm, Nat.le_of_eq hM.2.1.symm⟩, ?_⟩
                rw [← a1, ← a2]
                rw [List.length_cons] at hd
                refine ih fs' f.1 (f.2.1 + 1) f.2.2.1 _ y false hw hY hH hM h1 hS ho hfs' a3 ?_ (by omega)
                match v, w, hw2 with
                | none, none, _ => exact a4
                | some v, some w, hw2 => exact ⟨hw2, a4⟩
