/-! part 6: new objects and arrays -/
theorem nw_ok {oi ix tag n : Nat} (h : nwB oi ix tag n = true) : ∃ (C : String) (T : u_T), vwCl[tag]? = some (C, T, n) ∧ Jvm.Cond.classLink (ownN oi) ix C ∈ gtW ∧ Jvm.Cond.instantiable C n ∈ gtW ∧ Jvm.Cond.initialized C ∈ gtW ∧ tag < 100 := by
  unfold nwB at h
  obtain ⟨q, hq, hm⟩ := List.any_eq_true.mp h
  have hc := List.all_eq_true.mp nwA q hq
  obtain ⟨oi', ix', tag', n', w1, w2, w3⟩ := q
  simp only [Bool.and_eq_true, beq_iff_eq] at hm
  obtain ⟨⟨⟨rfl, rfl⟩, rfl⟩, rfl⟩ := hm
  unfold nwC at hc
  dsimp only at hc
  split at hc
  · cases hc
  · rename_i C T N hv
    simp only [Bool.and_eq_true, decide_eq_true_eq] at hc
    obtain ⟨⟨⟨⟨rfl, h2⟩, h3⟩, h4⟩, h5⟩ := hc
    exact ⟨C, T, hv, wB_of h2, wB_of h3, wB_of h4, h5⟩
theorem ar_ok {oi ix kd : Nat} (h : arB oi ix kd = true) : (kd = 0 → Jvm.Cond.classLink (ownN oi) ix "StarDays$Law" ∈ gtW) ∧ (kd ≠ 0 → Jvm.Cond.classLink (ownN oi) ix ("[" ++ (FieldType.array .int).toString) ∈ gtW) := by
  unfold arB at h
  obtain ⟨q, hq, hm⟩ := List.any_eq_true.mp h
  have hc := List.all_eq_true.mp arA q hq
  obtain ⟨oi', ix', kd', w⟩ := q
  simp only [Bool.and_eq_true, beq_iff_eq] at hm
  obtain ⟨⟨rfl, rfl⟩, rfl⟩ := hm
  unfold arC at hc
  dsimp only at hc
  refine ⟨fun z => ?_, fun z => ?_⟩
  · rw [if_pos z] at hc
    exact wB_of hc
  · rw [if_neg z] at hc
    exact wB_of hc
def acC : Bool := wB (acW.getD 0 0) (.arrayClass .int) && wB (acW.getD 1 0) (.arrayClass .byte) && wB (acW.getD 2 0) (.arrayClass .boolean) && wB (acW.getD 3 0) (.arrayClass .long) && wB obW.1 (.instanceMethod objectInit) && wB obW.2 (.code objectInit ⟨#[0xb1]⟩ 1 none)
theorem acA : acC = true := by decide +kernel
theorem ac_ok : Jvm.Cond.arrayClass .int ∈ gtW ∧ Jvm.Cond.arrayClass .byte ∈ gtW ∧ Jvm.Cond.arrayClass .boolean ∈ gtW ∧ Jvm.Cond.arrayClass .long ∈ gtW ∧ Jvm.Cond.instanceMethod objectInit ∈ gtW ∧ Jvm.Cond.code objectInit ⟨#[0xb1]⟩ 1 none ∈ gtW := by
  have h := acA
  unfold acC at h
  simp only [Bool.and_eq_true] at h
  obtain ⟨⟨⟨⟨⟨h1, h2⟩, h3⟩, h4⟩, h5⟩, h6⟩ := h
  exact ⟨wB_of h1, wB_of h2, wB_of h3, wB_of h4, wB_of h5, wB_of h6⟩
theorem ra_name {U : State} {cA : ClassId} {ty : FieldType} (h : va_RA U cA ty) : U.vm.findClass ("[" ++ ty.toString) = some cA := by
  cases ty with
  | object C =>
    obtain ⟨kA, comp, h1, h2, h3, h4⟩ := h
    exact h4
  | _ => exact h
theorem K_uniq {D : va_G} {tyC : Nat → ClassId} {s : State} {cA cB : ClassId} {ty : FieldType} {i : Nat} (hK : va_K D vwCl (tysE tyC ++ [(cA, ty)]) s) (hi : (tysE tyC)[i]? = some (cB, ty)) : cA = cB := by
  have h1 := ra_name (hK.2 6 (cA, ty) rfl).2
  have hl : i < (tysE tyC).length := (List.getElem?_eq_some_iff.mp hi).1
  have h2 := ra_name (hK.2 i (cB, ty) (by rw [List.getElem?_append_left hl]; exact hi)).2
  exact Option.some.inj (h1.symm.trans h2)
section SND6
variable {p : Program} {l : Launch} {e : Env} {R : Room} {s : State} {m : MethodId} {args : Array Value} {below : List Frame} {meth : Method} {c : Code} {Q : State → Prop}
variable {tyC : Nat → ClassId} {D : va_G} {b L : Nat} {sa : Nat × Nat} {base : Nat} {xs : Nat → Int32} {A : Nat → Prop} {ad0 : Nat → Nat} {c0 s0 nL oi : Nat} {ct : Bool} {cc : ByteArray} {pc pc' k : Nat} {ls : AL} {st : List AV} {h : AH} {ns : List Nat} {z : Int}
def nwH (h : AH) (tag n : Nat) : AH := (h.1 + 1, h.2.1 + n, up1 h.2.2.1 h.1 (tag, n), (fun x => if x = h.1 then fun _ => 0 else h.2.2.2.1 x), (fun x => if x = h.1 then fun _ => 0 else h.2.2.2.2.1 x), (fun x => if x = h.1 then fun _ => none else h.2.2.2.2.2 x))
theorem wsE_new {ad : Nat → Nat} {tag n q : Nat} (hr : rgE h) : wsE tyC (up1 ad h.1 q) (nwH h tag n) = wsE tyC ad h ++ [(q, ceE tyC ad (tag, n) (fun _ => 0) (fun _ => 0) (fun _ => none))] := by
  unfold wsE nwH
  dsimp only
  rw [List.range_succ, List.map_append]
  congr 1
  · apply List.map_congr_left
    intro a ha
    have ha := List.mem_range.mp ha
    have hne : a ≠ h.1 := by omega
    rw [ceE_ad (ad := ad) (fun j r hr9 => ?_)]
    · unfold up1
      simp only [if_neg hne]
    · simp only [if_neg hne] at hr9
      have := hr.2.2 a j r hr9
      unfold up1
      rw [if_neg (by omega)]
  · simp only [List.map_cons, List.map_nil]
    rw [ceE_ad (ad := ad) (fun j r hr9 => by simp at hr9)]
    unfold up1
    simp only [if_pos trivial]
theorem RepE_new {ad : Nat → Nat} {H H1 : Heap} {tag n q : Nat} (hR : RepE tyC D b L sa base xs ad0 c0 A ad h H) (hc : h.1 < 1000000) (hc0 : c0 ≤ h.1) (hP : va_P D vwCl (wsE tyC ad h ++ [(q, ceE tyC ad (tag, n) (fun _ => 0) (fun _ => 0) (fun _ => none))]) H1) (hD : va_D A (wsE tyC ad h ++ [(q, ceE tyC ad (tag, n) (fun _ => 0) (fun _ => 0) (fun _ => none))])) (hb : ∀ x, A x → base ≤ x) : RepE tyC D b L sa base xs ad0 c0 A (up1 ad h.1 q) (nwH h tag n) H1 := by
  obtain ⟨-, -, hr, g1, g2, g3, g4, g5, g6, g7⟩ := hR
  have hq : A q := hD.2 h.1 (q, _) (by rw [List.getElem?_append_right (by rw [wsE_len]; exact Nat.le_refl _), wsE_len, Nat.sub_self]; rfl)
  rw [← wsE_new hr] at hP hD
  have n1 : (1000000 : Nat) ≠ h.1 := by omega
  have n2 : (1000001 : Nat) ≠ h.1 := by omega
  refine ⟨hP, hD, ⟨fun a j => ?_, fun a j => ?_, fun a j r e9 => ?_⟩, ?_, ?_, fun j hj => ?_, ?_, ?_, hc, fun a ha => ?_⟩
  · unfold nwH
    dsimp only
    by_cases e1 : a = h.1
    · rw [if_pos e1]; exact rg0
    · rw [if_neg e1]; exact hr.1 a j
  · unfold nwH
    dsimp only
    by_cases e1 : a = h.1
    · rw [if_pos e1]; exact ⟨by decide, by decide⟩
    · rw [if_neg e1]; exact hr.2.1 a j
  · unfold nwH at e9 ⊢
    dsimp only at e9 ⊢
    by_cases e1 : a = h.1
    · rw [if_pos e1] at e9; cases e9
    · rw [if_neg e1] at e9; have := hr.2.2 a j r e9; omega
  · unfold up1; rw [if_neg n1]; exact g1
  · unfold nwH up1; dsimp only; rw [if_neg n1]; exact g2
  · unfold nwH; dsimp only; rw [if_neg n1]; exact g3 j hj
  · unfold up1; rw [if_neg n2, if_neg (by omega)]; exact g4
  · unfold nwH up1; dsimp only; rw [if_neg n2]; exact g5
  · unfold nwH at ha
    dsimp only at ha
    unfold up1
    by_cases e1 : a = h.1
    · rw [if_pos e1]; exact ⟨hb q hq, fun z9 => by omega⟩
    · rw [if_neg e1]; exact g7 a (by omega)
theorem sn_newo {pcs : Nat → Nat} {tag n d : Nat} {vs : List AV} (X : CTX p R s m args meth c tyC D b L sa base xs A cc nL oi ct) (hp : pcs (k + 1) = pcs k + d) (hroom : h.1 + 1 ≤ c0 + R.cells ∧ h.2.1 + n ≤ s0 + R.slots)
    (row : ∀ (ad : Nat → Nat) (H : Heap) (locs : List Loc) (cells slots : Nat) (cls : Array Slot) (rest : List Value), (∀ v ∈ vs, inR h.1 v) → va_P D vwCl (wsE tyC ad h) H → va_D A (wsE tyC ad h) → va_S A s.heap H locs → cells + 1 ≤ R.cells → slots + n ≤ R.slots → (∀ (q : Nat) (H1 : Heap), va_P D vwCl (wsE tyC ad h ++ [(q, ceE tyC ad (tag, n) (fun _ => 0) (fun _ => 0) (fun _ => none))]) H1 → va_D A (wsE tyC ad h ++ [(q, ceE tyC ad (tag, n) (fun _ => 0) (fun _ => 0) (fun _ => none))]) → va_S A s.heap H1 locs → W p l e R s m args below meth c H1 locs (cells + 1) (slots + n) Q (F0 m (pcs k + d) cls (.ref q :: rest))) → W p l e R s m args below meth c H locs cells slots Q (F0 m (pcs k) cls (vs.map (cvv ad) ++ rest)))
    {q : Nat × AL × List AV × AH} (eq : am_newo tag n k ls st h = some q) (hk : SW p l e R s m args below meth c Q tyC D b L sa base xs A ad0 c0 s0 nL (pcs q.1) q.2.1 q.2.2.1 q.2.2.2) : SW p l e R s m args below meth c Q tyC D b L sa base xs A ad0 c0 s0 nL (pcs k) ls (vs ++ st) h := by
  obtain ⟨-, -, -, -, -, -, -, -, -, -, -, -, -, hbA⟩ := X
  have eq2 : am_g (h.1 < 1000000) (some (k + 1, ls, .inr (.inr (some h.1)) :: st, nwH h tag n)) = some q := eq
  obtain ⟨g1, eq2⟩ := am_g_some eq2
  cases eq2
  intro ad H locs cls cells slots hR hS hl hst hc hs
  obtain ⟨hP, hD, hr, -⟩ := id hR
  rw [List.map_append]
  refine row ad H locs cells slots cls _ (fun v hv => hst v (List.mem_append_left _ hv)) hP hD hS (by omega) (by omega) (fun q H1 hP1 hD1 hS1 => ?_)
  have h1 : ∀ a, a < h.1 → up1 ad h.1 q a = ad a := fun a ha => by unfold up1; rw [if_neg (by omega)]
  have h2 : up1 ad h.1 q 1000000 = ad 1000000 := by unfold up1; rw [if_neg (by omega)]
  have h3 : up1 ad h.1 q 1000001 = ad 1000001 ∧ up1 ad h.1 q 1000002 = ad 1000002 := by unfold up1; rw [if_neg (by omega), if_neg (by omega)]; exact ⟨rfl, rfl⟩
  have hst2 : ∀ v ∈ st, inR h.1 v := fun v hv => hst v (List.mem_append_right _ hv)
  have go := hk (up1 ad h.1 q) H1 locs cls (cells + 1) (slots + n) (RepE_new hR g1 (by omega) hP1 hD1 hbA) hS1 (lrE_ad hl (Nat.le_succ _) h1 h2 h3) (fun v hv => (List.mem_cons.mp hv).elim (fun e => by rw [e]; exact Or.inl (Nat.lt_succ_self _)) (fun hv => inR_le (hst2 v hv) (Nat.le_succ _))) (by show cells + 1 + c0 = h.1 + 1; omega) (by show slots + n + s0 = h.2.1 + n; omega)
  rw [List.map_cons, map_ad hst2 h1 h2 h3, hp] at go
  have e5 : cvv (up1 ad h.1 q) (.inr (.inr (some h.1))) = .ref q := by show Value.ref (up1 ad h.1 q h.1) = _; unfold up1; rw [if_pos rfl]
  rw [e5] at go
  exact go
theorem sn_new {pcs : Nat → Nat} {ix tag n : Nat} (X : CTX p R s m args meth c tyC D b L sa base xs A cc nL oi ct) (hd : decode cc (pcs k) = .ok (.new ix, 3)) (hp : pcs (k + 1) = pcs k + 3) (hf : nwB oi ix tag n = true) (hroom : h.1 + 1 ≤ c0 + R.cells ∧ h.2.1 + n ≤ s0 + R.slots)
    {q : Nat × AL × List AV × AH} (eq : am_newo tag n k ls st h = some q) (hk : SW p l e R s m args below meth c Q tyC D b L sa base xs A ad0 c0 s0 nL (pcs q.1) q.2.1 q.2.2.1 q.2.2.2) : SW p l e R s m args below meth c Q tyC D b L sa base xs A ad0 c0 s0 nL (pcs k) ls st h := by
  obtain ⟨C, T, hv, hw1, hw2, hw3, ht⟩ := nw_ok hf
  obtain ⟨hin, hnm, ty0, hty⟩ := cl_ok hv
  refine sn_newo (vs := []) X hp hroom (fun ad H locs cells slots cls rest _ hP hD hS hc1 hs1 kk => ?_) eq hk
  obtain ⟨hx, hb, hml, hown, hts, hK, -, -, hA, -⟩ := X
  have hce : ceE tyC ad (tag, n) (fun _ => 0) (fun _ => 0) (fun _ => none) = .inr (tag, (List.range n).map (fun k => cfv ad ((fkN tag).getD k 0) 0 0 none)) := by
    unfold ceE
    rw [if_pos ht]
  rw [hce] at kk
  refine va_new (D := D) (ci := tag) (C := C) (T := T) (N := n) hx hb hts hin ty0 (fun k hk => (hty k hk).1) hown (hts _ hw1) (hts _ hw2) (hts _ hw3) hK hP hD hS hA hv (fun j hj => ?_) hc1 hs1 hd kk
  have e1 : vp_V ((List.range n).map (fun k => cfv ad ((fkN tag).getD k 0) 0 0 none)) j = cfv ad ((fkN tag).getD j 0) 0 0 none := by
    unfold vp_V
    rw [List.getD_eq_getElem?_getD, List.getElem?_map, List.getElem?_range hj]
    rfl
  rw [e1]
  rcases (hty j hj).2 with ⟨e2, e3⟩ | ⟨e2, e3⟩ | ⟨e2, e3⟩ | ⟨e2, e3⟩
  · rw [e2, e3]; rfl
  · rw [e2, e3]; rfl
  · rw [e2]
    cases hq : ty0 j <;> rw [hq] at e3 <;> first | rfl | cases e3
  · rw [e2, e3]; rfl
theorem sn_newa {pcs : Nat → Nat} {tag d : Nat} (hp : pcs (k + 1) = pcs k + d) (X : CTX p R s m args meth c tyC D b L sa base xs A cc nL oi ct)
    (row : ∀ (ad : Nat → Nat) (H : Heap) (locs : List Loc) (cells slots : Nat) (cls : Array Slot) (rest : List Value) (x : Int32) (N : Nat), ¬ x < 0 → x.toNatClampNeg = N → N ≤ 60000000 → va_P D vwCl (wsE tyC ad h) H → va_D A (wsE tyC ad h) → va_S A s.heap H locs → cells + 1 ≤ R.cells → slots + N ≤ R.slots → (∀ (q : Nat) (H1 : Heap), va_P D vwCl (wsE tyC ad h ++ [(q, ceE tyC ad (tag, N) (fun _ => 0) (fun _ => 0) (fun _ => none))]) H1 → va_D A (wsE tyC ad h ++ [(q, ceE tyC ad (tag, N) (fun _ => 0) (fun _ => 0) (fun _ => none))]) → va_S A s.heap H1 locs → W p l e R s m args below meth c H1 locs (cells + 1) (slots + N) Q (F0 m (pcs k + d) cls (.ref q :: rest))) → W p l e R s m args below meth c H locs cells slots Q (F0 m (pcs k) cls (.int x :: rest)))
    {q : Nat × AL × List AV × AH} (hroom : q.2.2.2.1 ≤ c0 + R.cells ∧ q.2.2.2.2.1 ≤ s0 + R.slots) (eq : am_newa tag k ls st h = some q) (hk : SW p l e R s m args below meth c Q tyC D b L sa base xs A ad0 c0 s0 nL (pcs q.1) q.2.1 q.2.2.1 q.2.2.2) : SW p l e R s m args below meth c Q tyC D b L sa base xs A ad0 c0 s0 nL (pcs k) ls st h := by
  unfold am_newa at eq
  split at eq
  · rename_i z st
    obtain ⟨⟨g1, g2⟩, eq⟩ := am_g_some eq
    have eq2 : am_g (h.1 < 1000000) (some (k + 1, ls, .inr (.inr (some h.1)) :: st, nwH h tag z.toNat)) = some q := eq
    have hq : q.2.2.2 = nwH h tag z.toNat := by
      obtain ⟨-, e9⟩ := am_g_some eq2
      cases e9
      rfl
    rw [hq] at hroom
    refine sn_newo (vs := [.inl z]) X hp hroom (fun ad H locs cells slots cls rest hv hP hD hS hc1 hs1 kk => ?_) eq hk
    have hz : rg32 z := hv _ List.mem_cons_self
    exact row ad H locs cells slots cls rest (Int32.ofInt z) z.toNat (fun q9 => by rw [z32, lt32 hz rg0] at q9; omega) (by show (Int32.ofInt z).toInt.toNat = _; rw [t32 hz]) (by omega) hP hD hS hc1 hs1 kk
  · cases eq
theorem sn_newarr {pcs : Nat → Nat} {t : ArrayType} {tag : Nat} (X : CTX p R s m args meth c tyC D b L sa base xs A cc nL oi ct) (hd : decode cc (pcs k) = .ok (.newarray t, 2)) (hp : pcs (k + 1) = pcs k + 2) (hf : (match t with | .int => tag == 100 | .byte => tag == 101 | .boolean => tag == 102 | .long => tag == 103 | _ => false) = true)
    {q : Nat × AL × List AV × AH} (hroom : q.2.2.2.1 ≤ c0 + R.cells ∧ q.2.2.2.2.1 ≤ s0 + R.slots) (eq : am_newa tag k ls st h = some q) (hk : SW p l e R s m args below meth c Q tyC D b L sa base xs A ad0 c0 s0 nL (pcs q.1) q.2.1 q.2.2.1 q.2.2.2) : SW p l e R s m args below meth c Q tyC D b L sa base xs A ad0 c0 s0 nL (pcs k) ls st h := by
  refine sn_newa hp X (fun ad H locs cells slots cls rest x N hx0 hN hN2 hP hD hS hc1 hs1 kk => ?_) hroom eq hk
  obtain ⟨hx, hb, hml, hown, hts, hK, -, -, hA, -⟩ := X
  obtain ⟨w1, w2, w3, w4, -⟩ := ac_ok
  cases t with
  | int =>
    have ht : tag = 100 := by simpa using hf
    subst ht
    rw [ceI (by simp) (by simp)] at kk
    exact va_newa (D := D) (atype := .int) (ty := .int) (a0 := (N, .inl (fun _ => 0))) hx hb (hts _ w1) rfl hK hP hD hS hA (fun cA => rfl) hx0 hN (by show N * 4 ≤ _; omega) hc1 hs1 hd (fun q cA H1 hK1 hP1 hD1 hS1 => by
      have e := K_uniq hK1 (i := 0) rfl
      subst e
      exact kk q H1 hP1 hD1 hS1)
  | byte =>
    have ht : tag = 101 := by simpa using hf
    subst ht
    rw [ceI (by simp) (by simp)] at kk
    exact va_newa (D := D) (atype := .byte) (ty := .byte) (a0 := (N, .inl (fun _ => 0))) hx hb (hts _ w2) rfl hK hP hD hS hA (fun cA => rfl) hx0 hN (by show N * 1 ≤ _; omega) hc1 hs1 hd (fun q cA H1 hK1 hP1 hD1 hS1 => by
      have e := K_uniq hK1 (i := 1) rfl
      subst e
      exact kk q H1 hP1 hD1 hS1)
  | boolean =>
    have ht : tag = 102 := by simpa using hf
    subst ht
    rw [ceI (by simp) (by simp)] at kk
    exact va_newa (D := D) (atype := .boolean) (ty := .boolean) (a0 := (N, .inl (fun _ => 0))) hx hb (hts _ w3) rfl hK hP hD hS hA (fun cA => rfl) hx0 hN (by show N * 1 ≤ _; omega) hc1 hs1 hd (fun q cA H1 hK1 hP1 hD1 hS1 => by
      have e := K_uniq hK1 (i := 2) rfl
      subst e
      exact kk q H1 hP1 hD1 hS1)
  | long =>
    have ht : tag = 103 := by simpa using hf
    subst ht
    rw [ceL rfl] at kk
    exact va_newa (D := D) (atype := .long) (ty := .long) (a0 := (N, .inr (.inl (fun _ => 0)))) hx hb (hts _ w4) rfl hK hP hD hS hA (fun cA => rfl) hx0 hN (by show N * 8 ≤ _; omega) hc1 hs1 hd (fun q cA H1 hK1 hP1 hD1 hS1 => by
      have e := K_uniq hK1 (i := 3) rfl
      subst e
      exact kk q H1 hP1 hD1 hS1)
  | _ => cases hf
theorem sn_anew {pcs : Nat → Nat} {ix : Nat} (X : CTX p R s m args meth c tyC D b L sa base xs A cc nL oi ct) (hd : decode cc (pcs k) = .ok (.anewarray ix, 3)) (hp : pcs (k + 1) = pcs k + 3) (hf : arB oi ix 0 = true)
    {q : Nat × AL × List AV × AH} (hroom : q.2.2.2.1 ≤ c0 + R.cells ∧ q.2.2.2.2.1 ≤ s0 + R.slots) (eq : am_newa 105 k ls st h = some q) (hk : SW p l e R s m args below meth c Q tyC D b L sa base xs A ad0 c0 s0 nL (pcs q.1) q.2.1 q.2.2.1 q.2.2.2) : SW p l e R s m args below meth c Q tyC D b L sa base xs A ad0 c0 s0 nL (pcs k) ls st h := by
  refine sn_newa hp X (fun ad H locs cells slots cls rest x N hx0 hN hN2 hP hD hS hc1 hs1 kk => ?_) hroom eq hk
  obtain ⟨hx, hb, hml, hown, hts, hK, -, ⟨hao, -⟩, hA, -⟩ := X
  have hw := (ar_ok hf).1 rfl
  rw [ceA (by simp)] at kk
  have hao2 : va_AO "StarDays$Law" s := by
    have h9 : (Jvm.Cond.arrayOver (.object "StarDays$Law")).before #[] s = true := hao
    exact h9
  exact va_newq (D := D) hx hb hown (hts _ hw) hao2 hK hP hD hS hA hx0 hN (by omega) hc1 hs1 hd (fun q cA H1 hK1 hP1 hD1 hS1 => by
    have e := K_uniq hK1 (i := 5) rfl
    subst e
    exact kk q H1 hP1 hD1 hS1)
end SND6
