/-! part 7: arrays of arrays; Object's constructor -/
section SND7
variable {p : Program} {l : Launch} {e : Env} {R : Room} {s : State} {m : MethodId} {args : Array Value} {below : List Frame} {meth : Method} {c : Code} {Q : State → Prop}
variable {tyC : Nat → ClassId} {D : va_G} {b L : Nat} {sa : Nat × Nat} {base : Nat} {xs : Nat → Int32} {A : Nat → Prop} {ad0 : Nat → Nat} {c0 s0 nL oi : Nat} {ct : Bool} {cc : ByteArray} {pc pc' k : Nat} {ls : AL} {st : List AV} {h : AH} {ns : List Nat} {z : Int}
/-- the names behind new T[n][..]: the outer one at o, then the inner ones -/
def adM (ad : Nat → Nat) (c n o : Nat) : Nat → Nat := fun a => if c ≤ a ∧ a ≤ c + n then o + (a - c) else ad a
def nwM (h : AH) (n j : Nat) : AH := (h.1 + 1 + n, h.2.1 + n + n * j, (fun x => if x = h.1 then (104, n) else if h.1 < x ∧ x ≤ h.1 + n then (100, j) else h.2.2.1 x), (fun x => if h.1 ≤ x ∧ x ≤ h.1 + n then fun _ => 0 else h.2.2.2.1 x), (fun x => if h.1 ≤ x ∧ x ≤ h.1 + n then fun _ => 0 else h.2.2.2.2.1 x), (fun x => if x = h.1 then fun y => if y < n then some (h.1 + 1 + y) else none else if h.1 < x ∧ x ≤ h.1 + n then fun _ => none else h.2.2.2.2.2 x))
theorem wsE_M_old {ad : Nat → Nat} {n j o a : Nat} (hr : rgE h) (ha : a < h.1) : (wsE tyC (adM ad h.1 n o) (nwM h n j))[a]? = (wsE tyC ad h)[a]? := by
  rw [wsE_at (h := nwM h n j) (by show a < h.1 + 1 + n; omega), wsE_at ha]
  have e1 : adM ad h.1 n o a = ad a := by unfold adM; rw [if_neg (by omega)]
  have e2 : (nwM h n j).2.2.1 a = h.2.2.1 a := by show (if a = h.1 then _ else if h.1 < a ∧ a ≤ h.1 + n then _ else h.2.2.1 a) = _; rw [if_neg (by omega), if_neg (by omega)]
  have e3 : (nwM h n j).2.2.2.1 a = h.2.2.2.1 a := by show (if h.1 ≤ a ∧ a ≤ h.1 + n then _ else h.2.2.2.1 a) = _; rw [if_neg (by omega)]
  have e4 : (nwM h n j).2.2.2.2.1 a = h.2.2.2.2.1 a := by show (if h.1 ≤ a ∧ a ≤ h.1 + n then _ else h.2.2.2.2.1 a) = _; rw [if_neg (by omega)]
  have e5 : (nwM h n j).2.2.2.2.2 a = h.2.2.2.2.2 a := by show (if a = h.1 then _ else if h.1 < a ∧ a ≤ h.1 + n then _ else h.2.2.2.2.2 a) = _; rw [if_neg (by omega), if_neg (by omega)]
  rw [e1, e2, e3, e4, e5, ceE_ad (ad := ad) (fun j9 r hr9 => by
    have := hr.2.2 a j9 r hr9
    unfold adM
    rw [if_neg (by omega)])]
theorem wsE_M_out {ad : Nat → Nat} {n j o : Nat} : (wsE tyC (adM ad h.1 n o) (nwM h n j))[h.1]? = some (o, .inl (tyC 4, n, .inr (.inr (.inr (.inr (fun y => if y < n then some (o + 1 + y) else none)))))) := by
  rw [wsE_at (h := nwM h n j) (by show h.1 < h.1 + 1 + n; omega)]
  have e1 : adM ad h.1 n o h.1 = o := by unfold adM; rw [if_pos (by omega)]; omega
  have e2 : (nwM h n j).2.2.1 h.1 = (104, n) := by show (if h.1 = h.1 then _ else _) = _; rw [if_pos rfl]
  have e5 : (nwM h n j).2.2.2.2.2 h.1 = fun y => if y < n then some (h.1 + 1 + y) else none := by show (if h.1 = h.1 then _ else _) = _; rw [if_pos rfl]
  rw [e1, e2, e5, ceA (by simp)]
  have e6 : (fun y => Option.map (adM ad h.1 n o) (if y < n then some (h.1 + 1 + y) else none)) = fun y => if y < n then some (o + 1 + y) else none := by
    funext y
    by_cases hy : y < n
    · rw [if_pos hy, if_pos hy]
      simp only [Option.map_some]
      unfold adM
      rw [if_pos (by omega)]
      congr 1
      omega
    · rw [if_neg hy, if_neg hy]; rfl
  rw [e6]
  rfl
theorem wsE_M_in {ad : Nat → Nat} {n j o i : Nat} (hi : i < n) : (wsE tyC (adM ad h.1 n o) (nwM h n j))[h.1 + 1 + i]? = some (o + 1 + i, .inl (tyC 0, j, .inl (fun _ => 0))) := by
  rw [wsE_at (h := nwM h n j) (by show h.1 + 1 + i < h.1 + 1 + n; omega)]
  have e1 : adM ad h.1 n o (h.1 + 1 + i) = o + 1 + i := by unfold adM; rw [if_pos (by omega)]; omega
  have e2 : (nwM h n j).2.2.1 (h.1 + 1 + i) = (100, j) := by show (if h.1 + 1 + i = h.1 then _ else if h.1 < h.1 + 1 + i ∧ h.1 + 1 + i ≤ h.1 + n then _ else _) = _; rw [if_neg (by omega), if_pos (by omega)]
  have e3 : (nwM h n j).2.2.2.1 (h.1 + 1 + i) = fun _ => 0 := by show (if h.1 ≤ h.1 + 1 + i ∧ h.1 + 1 + i ≤ h.1 + n then _ else _) = _; rw [if_pos (by omega)]
  rw [e1, e2, e3, ceI (by simp) (by simp)]
  rfl
theorem sn_newm {pcs : Nat → Nat} {ix : Nat} (X : CTX p R s m args meth c tyC D b L sa base xs A cc nL oi ct) (hd : decode cc (pcs k) = .ok (.multianewarray ix 2, 4)) (hp : pcs (k + 1) = pcs k + 4) (hf : arB oi ix 1 = true)
    {q : Nat × AL × List AV × AH} (hroom : q.2.2.2.1 ≤ c0 + R.cells ∧ q.2.2.2.2.1 ≤ s0 + R.slots) (eq : am_newm 104 100 k ls st h = some q) (hk : SW p l e R s m args below meth c Q tyC D b L sa base xs A ad0 c0 s0 nL (pcs q.1) q.2.1 q.2.2.1 q.2.2.2) : SW p l e R s m args below meth c Q tyC D b L sa base xs A ad0 c0 s0 nL (pcs k) ls st h := by
  obtain ⟨hx, hb, hml, hown, hts, hK, -, ⟨-, hao, -⟩, hA, -, -, -, hbs, hbA⟩ := X
  have hw := (ar_ok hf).2 (by decide)
  unfold am_newm at eq
  split at eq
  · rename_i z y st
    have eq2 : am_g (0 ≤ z ∧ z ≤ 10000000 ∧ 0 ≤ y ∧ y ≤ 10000000 ∧ h.1 + 1 + y.toNat < 1000000) (some (k + 1, ls, .inr (.inr (some h.1)) :: st, nwM h y.toNat z.toNat)) = some q := eq
    obtain ⟨⟨g1, g2, g3, g4, g5⟩, eq2⟩ := am_g_some eq2
    cases eq2
    have hroom2 : h.1 + 1 + y.toNat ≤ c0 + R.cells ∧ h.2.1 + y.toNat + y.toNat * z.toNat ≤ s0 + R.slots := hroom
    intro ad H locs cls cells slots hR hS hl hst hc hs
    obtain ⟨hP, hD, hr, r1, r2, r3, r4, r5, r6, r7⟩ := hR
    have hz : rg32 z := hst (.inl z) List.mem_cons_self
    have hy : rg32 y := hst (.inl y) (List.mem_cons_of_mem _ List.mem_cons_self)
    have ez : (Int32.ofInt z).toNatClampNeg = z.toNat := by show (Int32.ofInt z).toInt.toNat = _; rw [t32 hz]
    have ey : (Int32.ofInt y).toNatClampNeg = y.toNat := by show (Int32.ofInt y).toInt.toNat = _; rw [t32 hy]
    intro T hT Xs
    obtain ⟨vm₁, cA, comp, -, fA, fC, hO, -, X', step⟩ := Jvm.Stand.multianewarray2F Xs hx hown (hts _ hw) hao (hts _ ac_ok.1) (g := F0 m (pcs k) cls (.int (Int32.ofInt z) :: .int (Int32.ofInt y) :: st.map (cvv ad))) rfl (by rw [hb]; exact hd) rfl (fun q9 => by rw [z32, lt32 hy rg0] at q9; omega) (fun q9 => by rw [z32, lt32 hz rg0] at q9; omega) (by rw [ey]; omega) (by rw [ez]; show z.toNat * 4 ≤ _; omega) (by rw [ez]; omega) rfl rfl (by rw [ey]; omega) (by rw [ey, ez]; omega)
    rw [ey, ez] at X' step
    have eA : cA = tyC 4 := Option.some.inj (fA.symm.trans (ra_name (hK.2 4 _ rfl).2))
    have eC : comp = tyC 0 := Option.some.inj (fC.symm.trans (ra_name (hK.2 0 _ rfl).2))
    subst eA
    subst eC
    generalize hF : Jvm.Free.Multi.fill (T.setVm vm₁) (tyC 4) (tyC 0) y.toNat z.toNat (defaultValue .int) y.toNat = F at X' step
    have hTh : (T.setVm vm₁).heap = H := hT
    obtain ⟨f1, f2, -, -⟩ := Jvm.Free.Multi.fill_facts (T.setVm vm₁) (tyC 4) (tyC 0) y.toNat z.toNat (defaultValue .int) y.toNat
    rw [hF, hTh] at f1 f2
    have hold : ∀ x : Nat, x < H.size → F.heap[x]? = H[x]? := fun x hx => by
      have := Jvm.Free.Multi.fill_old (T.setVm vm₁) (tyC 4) (tyC 0) y.toNat z.toNat (defaultValue .int) (a := x) (by rw [hTh]; exact hx) y.toNat
      rw [hF, hTh] at this
      exact this
    have hrow : ∀ i : Nat, i < y.toNat → F.heap[H.size + 1 + i]? = some (vp_cell (tyC 0) (z.toNat, .inl (fun _ => 0))) := fun i hi => by
      have := Jvm.Free.Multi.fill_inner (T.setVm vm₁) (tyC 4) (tyC 0) y.toNat z.toNat (defaultValue .int) y.toNat i hi
      rw [hF, hTh] at this
      rw [this]
      congr 1
      show ({ cls := tyC 0, slots := Array.replicate z.toNat (.int 0), vm := .none } : Cell) = _
      rw [arrV_new]
      rfl
    have hout : F.heap[H.size]? = some (vp_cell (tyC 4) (y.toNat, .inr (.inr (.inr (.inr (fun i => if i < y.toNat then some (H.size + 1 + i) else none)))))) := by
      rw [f2, vp_cell_q]
      congr 1
      have : ∀ i : Nat, Jvm.Free.Multi.outerC (tyC 4) y.toNat H.size i = arrV (tyC 4) y.toNat (fun j => va_rf (if j < i then some (H.size + 1 + j) else none)) := by
        intro i
        induction i with
        | zero =>
          show ({ cls := tyC 4, slots := Array.replicate y.toNat .null, vm := .none } : Cell) = _
          rw [arrV_new]
          refine congrArg (arrV (tyC 4) y.toNat) (funext fun j => ?_)
          simp [va_rf]
        | succ i ih =>
          show (Jvm.Free.Multi.outerC (tyC 4) y.toNat H.size i).setSlot i (.ref (H.size + 1 + i)) = _
          rw [ih, arrV_store]
          refine congrArg (arrV (tyC 4) y.toNat) (funext fun j => ?_)
          by_cases e : j = i
          · subst e
            simp [updV, va_rf]
          · by_cases h : j < i
            · simp [updV, e, h, Nat.lt_succ_of_lt h]
            · simp [updV, e, h, show ¬ j < i + 1 by omega]
      exact this y.toNat
    have hat : ∀ (k9 : Nat) (x : Nat × va_E), (wsE tyC (adM ad h.1 y.toNat H.size) (nwM h y.toNat z.toNat))[k9]? = some x → (k9 < h.1 ∧ (wsE tyC ad h)[k9]? = some x) ∨ (k9 = h.1 ∧ x = (H.size, .inl (tyC 4, y.toNat, .inr (.inr (.inr (.inr (fun i => if i < y.toNat then some (H.size + 1 + i) else none))))))) ∨ ∃ i, i < y.toNat ∧ k9 = h.1 + 1 + i ∧ x = (H.size + 1 + i, .inl (tyC 0, z.toNat, .inl (fun _ => 0))) := by
      intro k9 x hx9
      have hl9 : k9 < h.1 + 1 + y.toNat := by
        have := (List.getElem?_eq_some_iff.mp hx9).1
        rw [wsE_len] at this
        exact this
      by_cases q1 : k9 < h.1
      · rw [wsE_M_old hr q1] at hx9
        exact Or.inl ⟨q1, hx9⟩
      · by_cases q2 : k9 = h.1
        · subst q2
          rw [wsE_M_out] at hx9
          exact Or.inr (Or.inl ⟨rfl, (Option.some.inj hx9).symm⟩)
        · refine Or.inr (Or.inr ⟨k9 - h.1 - 1, by omega, by omega, ?_⟩)
          rw [show k9 = h.1 + 1 + (k9 - h.1 - 1) by omega, wsE_M_in (by omega)] at hx9
          exact (Option.some.inj hx9).symm
    have hP2 : va_P D vwCl (wsE tyC (adM ad h.1 y.toNat H.size) (nwM h y.toNat z.toNat)) F.heap := by
      intro k9 x hx9
      rcases hat k9 x hx9 with ⟨q1, q2⟩ | ⟨-, rfl⟩ | ⟨i, hi, -, rfl⟩
      · exact (hP k9 x q2).kept (hold x.1 ((hP k9 x q2).lt))
      · exact hout
      · exact hrow i hi
    have hadr : ∀ (k9 : Nat) (x : Nat × va_E), (wsE tyC (adM ad h.1 y.toNat H.size) (nwM h y.toNat z.toNat))[k9]? = some x → (k9 < h.1 ∧ x.1 < H.size ∧ (wsE tyC ad h)[k9]? = some x) ∨ (h.1 ≤ k9 ∧ x.1 = H.size + (k9 - h.1)) := by
      intro k9 x hx9
      rcases hat k9 x hx9 with ⟨q1, q2⟩ | ⟨rfl, rfl⟩ | ⟨i, hi, rfl, rfl⟩
      · exact Or.inl ⟨q1, (hP k9 x q2).lt, q2⟩
      · exact Or.inr ⟨Nat.le_refl _, by simp⟩
      · exact Or.inr ⟨by omega, by dsimp only; omega⟩
    have hD2 : va_D A (wsE tyC (adM ad h.1 y.toNat H.size) (nwM h y.toNat z.toNat)) := by
      refine ⟨fun i j x1 x2 hi hj hxy => ?_, fun k9 x hx9 => ?_⟩
      · rcases hadr i x1 hi with ⟨a1, a2, a3⟩ | ⟨a1, a2⟩ <;> rcases hadr j x2 hj with ⟨b1, b2, b3⟩ | ⟨b1, b2⟩
        · exact hD.1 i j x1 x2 a3 b3 hxy
        · omega
        · omega
        · omega
      · rcases hadr k9 x hx9 with ⟨-, -, a3⟩ | ⟨-, a2⟩
        · exact hD.2 k9 x a3
        · exact hA _ (by rw [a2]; have := hS.1; omega)
    have h1 : ∀ a, a < h.1 → adM ad h.1 y.toNat H.size a = ad a := fun a ha => by unfold adM; rw [if_neg (by omega)]
    have h2 : adM ad h.1 y.toNat H.size 1000000 = ad 1000000 := by unfold adM; rw [if_neg (by omega)]
    have h3 : adM ad h.1 y.toNat H.size 1000001 = ad 1000001 ∧ adM ad h.1 y.toNat H.size 1000002 = ad 1000002 := by unfold adM; rw [if_neg (by omega), if_neg (by omega)]; exact ⟨rfl, rfl⟩
    have hst2 : ∀ v ∈ st, inR h.1 v := fun v hv => hst v (List.mem_cons_of_mem _ (List.mem_cons_of_mem _ hv))
    have hR2 : RepE tyC D b L sa base xs ad0 c0 A (adM ad h.1 y.toNat H.size) (nwM h y.toNat z.toNat) F.heap := by
      refine ⟨hP2, hD2, ⟨fun a j => ?_, fun a j => ?_, fun a j r e9 => ?_⟩, h2.trans r1, ?_, fun j hj => ?_, ⟨h3.1.trans r4.1, h3.2.trans r4.2⟩, ?_, by show h.1 + 1 + y.toNat ≤ _; omega, fun a ha => ?_⟩
      · show rg32 ((if h.1 ≤ a ∧ a ≤ h.1 + y.toNat then fun _ => 0 else h.2.2.2.1 a : Nat → Int) j)
        split
        · exact rg0
        · exact hr.1 a j
      · show rg64 ((if h.1 ≤ a ∧ a ≤ h.1 + y.toNat then fun _ => 0 else h.2.2.2.2.1 a : Nat → Int) j)
        split
        · show rg64 0
          exact ⟨by decide, by decide⟩
        · exact hr.2.1 a j
      · have e9 : (if a = h.1 then fun y9 => if y9 < y.toNat then some (h.1 + 1 + y9) else none else if h.1 < a ∧ a ≤ h.1 + y.toNat then fun _ => none else h.2.2.2.2.2 a : Nat → Option Nat) j = some r := e9
        show r < h.1 + 1 + y.toNat
        split at e9
        · dsimp only at e9
          split at e9
          · cases e9; omega
          · cases e9
        · split at e9
          · cases e9
          · have := hr.2.2 a j r e9; omega
      · show (if 1000000 = h.1 then _ else if h.1 < 1000000 ∧ 1000000 ≤ h.1 + y.toNat then _ else h.2.2.1 1000000) = _
        rw [if_neg (by omega), if_neg (by omega)]; exact r2
      · show (if h.1 ≤ 1000000 ∧ 1000000 ≤ h.1 + y.toNat then fun _ => 0 else h.2.2.2.1 1000000 : Nat → Int) j = _
        rw [if_neg (by omega)]; exact r3 j hj
      · show (if 1000001 = h.1 then _ else if h.1 < 1000001 ∧ 1000001 ≤ h.1 + y.toNat then _ else h.2.2.1 1000001 : Nat × Nat).1 = _
        rw [if_neg (by omega), if_neg (by omega)]; exact r5
      · have ha9 : a < h.1 + 1 + y.toNat := ha
        unfold adM
        by_cases q9 : h.1 ≤ a ∧ a ≤ h.1 + y.toNat
        · rw [if_pos q9]; have := hS.1; exact ⟨by omega, fun z9 => by omega⟩
        · rw [if_neg q9]; exact r7 a (by omega)
    have hS2 : va_S A s.heap F.heap locs := ⟨by rw [f1]; have := hS.1; omega, fun x h9 h8 => (hold x (Nat.lt_of_lt_of_le h9 hS.1)).trans (hS.2.1 x h9 h8), hS.2.2⟩
    have go := hk (adM ad h.1 y.toNat H.size) F.heap locs cls (cells + 1 + y.toNat) (slots + y.toNat + y.toNat * z.toNat) hR2 hS2 (lrE_ad hl (by show h.1 ≤ h.1 + 1 + y.toNat; omega) h1 h2 h3) (fun v hv => (List.mem_cons.mp hv).elim (fun e => by rw [e]; exact Or.inl (by show h.1 < h.1 + 1 + y.toNat; omega)) (fun hv => inR_le (hst2 v hv) (by show h.1 ≤ h.1 + 1 + y.toNat; omega))) (by show cells + 1 + y.toNat + c0 = h.1 + 1 + y.toNat; omega) (by show slots + y.toNat + y.toNat * z.toNat + s0 = h.2.1 + y.toNat + y.toNat * z.toNat; omega)
    rw [List.map_cons, map_ad hst2 h1 h2 h3, hp] at go
    have e5 : cvv (adM ad h.1 y.toNat H.size) (.inr (.inr (some h.1))) = .ref T.heap.size := by
      show Value.ref (adM ad h.1 y.toNat H.size h.1) = _
      unfold adM
      rw [if_pos (by omega), hT]
      simp
    rw [e5] at go
    obtain ⟨t, a1, b1⟩ := go F rfl X'
    exact ⟨t, step t a1, b1⟩
  · cases eq
theorem ob_ok {oi ix : Nat} (h : obB oi ix = true) : Jvm.Cond.methodLink (ownN oi) ix objectInit ∈ gtW := by
  unfold obB at h
  obtain ⟨q, hq, hm⟩ := List.any_eq_true.mp h
  have hc := List.all_eq_true.mp obA q hq
  obtain ⟨oi', ix', w⟩ := q
  simp only [Bool.and_eq_true, beq_iff_eq] at hm
  obtain ⟨rfl, rfl⟩ := hm
  exact wB_of hc
theorem sn_obj {pcs : Nat → Nat} {ix : Nat} (X : CTX p R s m args meth c tyC D b L sa base xs A cc nL oi ct) (hd : decode cc (pcs k) = .ok (.invokespecial ix, 3)) (hp : pcs (k + 1) = pcs k + 3) (hf : obB oi ix = true) (hRf : 1 ≤ R.frames) (hRl : 20 ≤ R.locals) {a : Nat} (g1 : am_cats st ≤ 8)
    (hk : SW p l e R s m args below meth c Q tyC D b L sa base xs A ad0 c0 s0 nL (pcs (k + 1)) ls st h) : SW p l e R s m args below meth c Q tyC D b L sa base xs A ad0 c0 s0 nL (pcs k) ls (.inr (.inr (some a)) :: st) h := by
  obtain ⟨hx, hb, hml, hown, hts, -⟩ := X
  intro ad H locs cls cells slots hR hS hl hst hc hs
  have go := hk ad H locs cls cells slots hR hS hl (fun v hv => hst _ (List.mem_cons_of_mem _ hv)) hc hs
  rw [hp] at go
  obtain ⟨-, -, -, -, w5, w6⟩ := ac_ok
  refine W.objInit (a := ad a) (rest := st.map (cvv ad)) hx hb hown (hts _ (ob_ok hf)) (hts _ w5) (hts _ w6) rfl (by rw [hml]; exact hl.2.1.1) rfl hd hRf ?_ go
  have := cats_map ad st
  show 2 * 0 + _ + 12 ≤ _
  omega
end SND7
