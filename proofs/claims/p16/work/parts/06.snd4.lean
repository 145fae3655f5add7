/-! part 4: the cells: fields, arrays, new ones -/
def kdC (kind : Nat) (t : Option FieldType) : Bool := match kind, t with
  | 0, some .int => true
  | 1, some .long => true
  | 2, some (.object _) => true
  | 2, some (.array _) => true
  | 3, some .boolean => true
  | _, _ => false
theorem kdC_of {kind : Nat} {t : Option FieldType} (h : kdC kind t = true) : (kind = 0 ∧ t = some .int) ∨ (kind = 1 ∧ t = some .long) ∨ (kind = 2 ∧ ∃ y : FieldType, t = some y ∧ y.isReference = true) ∨ (kind = 3 ∧ t = some .boolean) := by
  unfold kdC at h
  split at h
  · exact Or.inl ⟨rfl, rfl⟩
  · exact Or.inr (Or.inl ⟨rfl, rfl⟩)
  · exact Or.inr (Or.inr (Or.inl ⟨rfl, _, rfl, rfl⟩))
  · exact Or.inr (Or.inr (Or.inl ⟨rfl, _, rfl, rfl⟩))
  · exact Or.inr (Or.inr (Or.inr ⟨rfl, rfl⟩))
  · cases h
def clC (i : Nat) : Bool := match vwCl[i]? with
  | none => false
  | some (C, T, N) => (List.range N).all (fun k => wB ((lyW.getD i []).getD k 0) (u_lay C T k) && kdC ((fkN i).getD k 0) (parseFieldDescriptor (T k).2.2.1)) && (List.range N).all (fun a => (List.range N).all (fun b => decide (a = b) || decide ((T a).2.1 ≠ (T b).2.1)))
theorem clA : (List.range 13).all clC = true := by decide +kernel
theorem cl_ok {ci : Nat} {C : String} {T : u_T} {N : Nat} (h : vwCl[ci]? = some (C, T, N)) : (∀ w ∈ u_ws C T N, w ∈ gtW) ∧ (∀ a, a < N → ∀ b, b < N → a ≠ b → (T a).2.1 ≠ (T b).2.1) ∧ ∃ ty : Nat → FieldType, ∀ k, k < N → parseFieldDescriptor (T k).2.2.1 = some (ty k) ∧ (((fkN ci).getD k 0 = 0 ∧ ty k = .int) ∨ ((fkN ci).getD k 0 = 1 ∧ ty k = .long) ∨ ((fkN ci).getD k 0 = 2 ∧ (ty k).isReference = true) ∨ ((fkN ci).getD k 0 = 3 ∧ ty k = .boolean)) := by
  have hi : ci < 13 := (List.getElem?_eq_some_iff.mp h).1
  have h1 := List.all_eq_true.mp clA ci (List.mem_range.mpr hi)
  unfold clC at h1
  rw [h] at h1
  simp only [Bool.and_eq_true, List.all_eq_true, List.mem_range, Bool.or_eq_true, decide_eq_true_eq] at h1
  obtain ⟨h1, h2⟩ := h1
  refine ⟨fun w hw => ?_, fun a ha b hb hab => ?_, fun k => (parseFieldDescriptor (T k).2.2.1).getD .int, fun k hk => ?_⟩
  · obtain ⟨k, hk, rfl⟩ := List.mem_map.mp hw
    exact wB_of (h1 k (List.mem_range.mp hk)).1
  · rcases h2 a ha b hb with q | q
    · exact absurd q hab
    · exact q
  · dsimp only
    rcases kdC_of (h1 k hk).2 with ⟨e1, e2⟩ | ⟨e1, e2⟩ | ⟨e1, y, e2, e3⟩ | ⟨e1, e2⟩
    · rw [e2]; exact ⟨rfl, Or.inl ⟨e1, rfl⟩⟩
    · rw [e2]; exact ⟨rfl, Or.inr (Or.inl ⟨e1, rfl⟩)⟩
    · rw [e2]; exact ⟨rfl, Or.inr (Or.inr (Or.inl ⟨e1, e3⟩))⟩
    · rw [e2]; exact ⟨rfl, Or.inr (Or.inr (Or.inr ⟨e1, rfl⟩))⟩
theorem fr_ok {oi ix tag slot kind : Nat} (h : frB oi ix tag slot kind = true) : ∃ (C : String) (T : u_T) (N : Nat), vwCl[tag]? = some (C, T, N) ∧ slot < N ∧ Jvm.Cond.fieldLink (ownN oi) ix (T slot).1 (T slot).2.1 (T slot).2.2.1 ∈ gtW ∧ (fkN tag).getD slot 0 = kind ∧ tag < 100 ∧ ownN tag = (T slot).1 := by
  unfold frB at h
  obtain ⟨q, hq, hm⟩ := List.any_eq_true.mp h
  have hc := List.all_eq_true.mp frA q hq
  obtain ⟨oi', ix', tag', slot', kind', wi⟩ := q
  simp only [Bool.and_eq_true, beq_iff_eq] at hm
  obtain ⟨⟨⟨⟨rfl, rfl⟩, rfl⟩, rfl⟩, rfl⟩ := hm
  unfold frC at hc
  dsimp only at hc
  split at hc
  · cases hc
  · rename_i C T N hv
    simp only [Bool.and_eq_true, decide_eq_true_eq] at hc
    obtain ⟨⟨⟨⟨⟨h1, h2⟩, h3⟩, h4⟩, h5⟩, h6⟩ := hc
    exact ⟨C, T, N, hv, h1, wB_of h2, h3, h4, h5⟩
theorem fn_of {tag slot : Nat} {C : String} {T : u_T} {N : Nat} (h : vwCl[tag]? = some (C, T, N)) : fnB tag slot = (T slot).2.2.2 := by
  unfold fnB
  rw [h]
section SND4
variable {p : Program} {l : Launch} {e : Env} {R : Room} {s : State} {m : MethodId} {args : Array Value} {below : List Frame} {meth : Method} {c : Code} {Q : State → Prop}
variable {tyC : Nat → ClassId} {D : va_G} {b L : Nat} {sa : Nat × Nat} {base : Nat} {xs : Nat → Int32} {A : Nat → Prop} {ad0 : Nat → Nat} {c0 s0 nL oi : Nat} {ct : Bool} {cc : ByteArray} {pc pc' k : Nat} {ls : AL} {st : List AV} {h : AH} {ns : List Nat} {z : Int}
theorem RepE_set {ad : Nat → Nat} {h h' : AH} {H H1 : Heap} {a : Nat} {x : va_E} (hR : RepE tyC D b L sa base xs ad0 c0 A ad h H) (hn : h'.1 = h.1) (hT : h'.2.2.1 = h.2.2.1) (ha : a < h.1) (ho : ∀ q, q ≠ a → h'.2.2.2.1 q = h.2.2.2.1 q ∧ h'.2.2.2.2.1 q = h.2.2.2.2.1 q ∧ h'.2.2.2.2.2 q = h.2.2.2.2.2 q) (hr : rgE h') (hx : x = ceE tyC ad (h'.2.2.1 a) (h'.2.2.2.1 a) (h'.2.2.2.2.1 a) (h'.2.2.2.2.2 a)) (hP : va_P D vwCl ((wsE tyC ad h).set a (ad a, x)) H1) (hD : va_D A ((wsE tyC ad h).set a (ad a, x))) : RepE tyC D b L sa base xs ad0 c0 A ad h' H1 := by
  rw [wsE_set hn hT ho hx] at hP hD
  obtain ⟨-, -, -, g1, g2, g3, g4, g5, g6, g7⟩ := hR
  have hs : (1000000 : Nat) ≠ a := by omega
  exact ⟨hP, hD, hr, g1, by rw [hT]; exact g2, fun j hj => by rw [(ho _ hs).1]; exact g3 j hj, g4, by rw [hT]; exact g5, by rw [hn]; exact g6, fun q hq => g7 q (by rw [← hn]; exact hq)⟩
theorem cfv_get {ad : Nat → Nat} {kind f : Nat} {I J : Nat → Int} {Rr : Nat → Option Nat} : (match kind with | 0 => Sum.inl (I f) | 1 => .inr (.inl (J f)) | 2 => .inr (.inr (Rr f)) | _ => Sum.inl (I f) : AV) = (match kind with | 0 => Sum.inl (I f) | 1 => .inr (.inl (J f)) | 2 => .inr (.inr (Rr f)) | _ => Sum.inl (I f) : AV) := rfl
theorem cvv_cfv (ad : Nat → Nat) (kind : Nat) (i j : Int) (r : Option Nat) : cvv ad (match kind with | 0 => .inl i | 1 => .inr (.inl j) | 2 => .inr (.inr r) | _ => .inl i) = cfv ad kind i j r := by
  match kind with
  | 0 => rfl
  | 1 => rfl
  | 2 => cases r <;> rfl
  | k + 3 => rfl
theorem sn_get {pcs : Nat → Nat} {ix tag f kind : Nat} (X : CTX p R s m args meth c tyC D b L sa base xs A cc nL oi ct) (hd : decode cc (pcs k) = .ok (.getfield ix, 3)) (hp : pcs (k + 1) = pcs k + 3) (hf : frB oi ix tag f kind = true)
    {q : Nat × AL × List AV × AH} (eq : am_get tag f kind k ls st h = some q) (hk : SW p l e R s m args below meth c Q tyC D b L sa base xs A ad0 c0 s0 nL (pcs q.1) q.2.1 q.2.2.1 q.2.2.2) : SW p l e R s m args below meth c Q tyC D b L sa base xs A ad0 c0 s0 nL (pcs k) ls st h := by
  obtain ⟨C, T, N, hv, hN, hw, hkd, ht, -⟩ := fr_ok hf
  obtain ⟨hin, -, -⟩ := cl_ok hv
  obtain ⟨hx, hb, hml, hown, hts, hK, -⟩ := X
  unfold am_get at eq
  split at eq
  · rename_i a st
    obtain ⟨hn, hsl, hT, hI, hJ, hRr⟩ := h
    dsimp only at eq
    obtain ⟨⟨g1, g2, g3⟩, eq⟩ := am_g_some eq
    cases eq
    intro ad H locs cls cells slots hR hS hl hst hc hs
    obtain ⟨hP, hD, hrg, -⟩ := id hR
    have hat := wsE_at (tyC := tyC) (ad := ad) (h := (hn, hsl, hT, hI, hJ, hRr)) g3
    dsimp only at hat
    unfold ceE at hat
    rw [if_pos (by rw [g1]; exact ht), g1] at hat
    have hv9 : ((List.range (hT a).2).map (fun k => cfv ad ((fkN tag).getD k 0) (hI a k) (hJ a k) (hRr a k)))[f]? = some (cfv ad kind (hI a f) (hJ a f) (hRr a f)) := by
      rw [List.getElem?_map, List.getElem?_range g2, ← hkd]
      rfl
    refine va_get (D := D) (ci := tag) (C := C) (T := T) (N := N) hx hb hts hin hown hK hP a hat hv f hN (hts _ hw) (fun _ h9 => h9) hv9 hd ?_
    rw [← cvv_cfv, ← hp]
    refine hk ad H locs cls cells slots hR hS hl (fun v hv9 => ?_) hc hs
    rcases List.mem_cons.mp hv9 with rfl | hv9
    · split
      · exact hrg.1 a f
      · exact hrg.2.1 a f
      · cases hr : hRr a f with
        | none => trivial
        | some r => exact Or.inl (hrg.2.2 a f r hr)
      · exact hrg.1 a f
    · exact hst _ (List.mem_cons_of_mem _ hv9)
  · cases eq
/-- a field is written: the world behind it -/
theorem cfv_set {ad : Nat → Nat} {n f : Nat} {kd : Nat → Nat} {I I' J J' : Nat → Int} {Rr Rr' : Nat → Option Nat} {v : Value} (hf : f < n) (hv : v = cfv ad (kd f) (I' f) (J' f) (Rr' f)) (ho : ∀ j, j ≠ f → I' j = I j ∧ J' j = J j ∧ Rr' j = Rr j) : ((List.range n).map (fun k => cfv ad (kd k) (I k) (J k) (Rr k))).set f v = (List.range n).map (fun k => cfv ad (kd k) (I' k) (J' k) (Rr' k)) := by
  subst hv
  apply List.ext_getElem?
  intro j
  by_cases e : j = f
  · subst e
    rw [List.getElem?_set_self (by simp [hf]), List.getElem?_map, List.getElem?_range hf]
    rfl
  · rw [List.getElem?_set_ne (Ne.symm e), List.getElem?_map, List.getElem?_map]
    by_cases hj : j < n
    · rw [List.getElem?_range hj]
      simp only [Option.map_some]
      rw [(ho j e).1, (ho j e).2.1, (ho j e).2.2]
    · rw [List.getElem?_eq_none (by simp; omega)]
      rfl
theorem sn_put0 {pcs : Nat → Nat} {ix tag f kind a : Nat} {v : AV} {h h' : AH} (X : CTX p R s m args meth c tyC D b L sa base xs A cc nL oi ct) (hd : decode cc (pcs k) = .ok (.putfield ix, 3)) (hp : pcs (k + 1) = pcs k + 3) (hf : frB oi ix tag f kind = true) (hfin : (!(fnB tag f) || (ct && (oi == tag))) = true)
    (g1 : (h.2.2.1 a).1 = tag) (g2 : f < (h.2.2.1 a).2) (g3 : a < h.1) (hn : h'.1 = h.1) (hs2 : h'.2.1 = h.2.1) (hT : h'.2.2.1 = h.2.2.1) (ho : ∀ q, q ≠ a → h'.2.2.2.1 q = h.2.2.2.1 q ∧ h'.2.2.2.2.1 q = h.2.2.2.2.1 q ∧ h'.2.2.2.2.2 q = h.2.2.2.2.2 q) (ho2 : ∀ j, j ≠ f → h'.2.2.2.1 a j = h.2.2.2.1 a j ∧ h'.2.2.2.2.1 a j = h.2.2.2.2.1 a j ∧ h'.2.2.2.2.2 a j = h.2.2.2.2.2 a j)
    (hrg : rgE h → inR h.1 v → rgE h') (hcv : ∀ ad : Nat → Nat, cvv ad v = cfv ad kind (h'.2.2.2.1 a f) (h'.2.2.2.2.1 a f) (h'.2.2.2.2.2 a f)) (hvk : ∀ (ty : FieldType) (ad : Nat → Nat), (kind = 0 ∧ ty = .int) ∨ (kind = 1 ∧ ty = .long) ∨ (kind = 2 ∧ ty.isReference = true) ∨ (kind = 3 ∧ ty = .boolean) → narrow ty (cvv ad v) = cvv ad v ∧ fits ty (cvv ad v) = true)
    (hk : SW p l e R s m args below meth c Q tyC D b L sa base xs A ad0 c0 s0 nL (pcs (k + 1)) ls st h') : SW p l e R s m args below meth c Q tyC D b L sa base xs A ad0 c0 s0 nL (pcs k) ls (v :: .inr (.inr (some a)) :: st) h := by
  obtain ⟨C, T, N, hv, hN, hw, hkd, ht, hdecl⟩ := fr_ok hf
  obtain ⟨hin, hnm, ty0, hty⟩ := cl_ok hv
  obtain ⟨hx, hb, hml, hown, hts, hK, -, -, -, hct, -⟩ := X
  intro ad H locs cls cells slots hR hS hl hst hc hs
  obtain ⟨hP, hD, hr0, -⟩ := id hR
  have hat := wsE_at (tyC := tyC) (ad := ad) (h := h) g3
  unfold ceE at hat
  rw [if_pos (by rw [g1]; exact ht), g1] at hat
  obtain ⟨hpf, hkk⟩ := hty f hN
  rw [hkd] at hkk
  obtain ⟨hnr, hft⟩ := hvk (ty0 f) ad hkk
  have hset := cfv_set (ad := ad) (n := (h.2.2.1 a).2) (kd := fun k => (fkN tag).getD k 0) (v := cvv ad v) g2 (by rw [hcv ad, ← hkd]) ho2
  have hxx : (Sum.inr (tag, ((List.range (h.2.2.1 a).2).map (fun k => cfv ad ((fkN tag).getD k 0) (h.2.2.2.1 a k) (h.2.2.2.2.1 a k) (h.2.2.2.2.2 a k))).set f (cvv ad v)) : va_E) = ceE tyC ad (h'.2.2.1 a) (h'.2.2.2.1 a) (h'.2.2.2.2.1 a) (h'.2.2.2.2.2 a) := by
    rw [hset]
    unfold ceE
    rw [hT, if_pos (by rw [g1]; exact ht), g1]
  have hv0 : inR h.1 v := hst _ List.mem_cons_self
  have go : ∀ (H1 : Heap) (locs1 : List Loc), va_P D vwCl ((wsE tyC ad h).set a (ad a, .inr (tag, ((List.range (h.2.2.1 a).2).map (fun k => cfv ad ((fkN tag).getD k 0) (h.2.2.2.1 a k) (h.2.2.2.2.1 a k) (h.2.2.2.2.2 a k))).set f (cvv ad v)))) H1 → va_D A ((wsE tyC ad h).set a (ad a, .inr (tag, ((List.range (h.2.2.1 a).2).map (fun k => cfv ad ((fkN tag).getD k 0) (h.2.2.2.1 a k) (h.2.2.2.2.1 a k) (h.2.2.2.2.2 a k))).set f (cvv ad v)))) → va_S A s.heap H1 locs1 → W p l e R s m args below meth c H1 locs1 cells slots Q (F0 m (pcs k + 3) cls (st.map (cvv ad))) := by
    intro H1 locs1 hP1 hD1 hS1
    rw [← hp]
    exact hk ad H1 locs1 cls cells slots (RepE_set hR hn hT g3 ho (hrg hr0 hv0) hxx hP1 hD1) hS1 (by rw [hn]; exact hl) (fun v hv => by rw [hn]; exact hst _ (List.mem_cons_of_mem _ (List.mem_cons_of_mem _ hv))) (by rw [hn]; exact hc) (by rw [hs2]; exact hs)
  cases hfn : (T f).2.2.2 with
  | false => exact va_put (D := D) (ci := tag) (v := cvv ad v) (ty := ty0 f) (C := C) (T := T) (N := N) hx hb hts hin ty0 (fun k hk => (hty k hk).1) hnm hown hK hP hD hS a hat hv f hN (hts _ hw) (fun _ h9 => h9) hfn hpf hnr hft (by simp [g2]) hd go
  | true =>
    rw [fn_of hv, hfn] at hfin
    simp only [Bool.not_true, Bool.false_or, Bool.and_eq_true, beq_iff_eq] at hfin
    exact va_putF (D := D) (ci := tag) (v := cvv ad v) (ty := ty0 f) (C := C) (T := T) (N := N) hx hb hts hin ty0 (fun k hk => (hty k hk).1) hnm hown hK hP hD hS a hat hv f hN (hts _ hw) (fun _ h9 => h9) hfn (hct hfin.1) (by rw [hfin.2]; exact hdecl.symm) hpf hnr hft (by simp [g2]) hd go
theorem up2_a {α : Type} (f : Nat → Nat → α) (a j : Nat) (v : α) : ∀ q, q ≠ a → up2 f a j v q = f q := by
  intro q hq
  funext y
  unfold up2
  rw [if_neg (fun z => hq z.1)]
theorem up2_j {α : Type} (f : Nat → Nat → α) (a j : Nat) (v : α) : ∀ y, y ≠ j → up2 f a j v a y = f a y := by
  intro y hy
  unfold up2
  rw [if_neg (fun z => hy z.2)]
theorem up2_s {α : Type} (f : Nat → Nat → α) (a j : Nat) (v : α) : up2 f a j v a j = v := by unfold up2; rw [if_pos ⟨rfl, rfl⟩]
theorem up2_rg {P : Int → Prop} {f : Nat → Nat → Int} {a j : Nat} {v : Int} (h : ∀ x y, P (f x y)) (hv : P v) : ∀ x y, P (up2 f a j v x y) := by
  intro x y
  unfold up2
  split
  · exact hv
  · exact h x y
theorem sn_put {pcs : Nat → Nat} {ix tag f kind : Nat} (X : CTX p R s m args meth c tyC D b L sa base xs A cc nL oi ct) (hd : decode cc (pcs k) = .ok (.putfield ix, 3)) (hp : pcs (k + 1) = pcs k + 3) (hf : frB oi ix tag f kind = true) (hfin : (!(fnB tag f) || (ct && (oi == tag))) = true)
    {q : Nat × AL × List AV × AH} (eq : am_put tag f kind k ls st h = some q) (hk : SW p l e R s m args below meth c Q tyC D b L sa base xs A ad0 c0 s0 nL (pcs q.1) q.2.1 q.2.2.1 q.2.2.2) : SW p l e R s m args below meth c Q tyC D b L sa base xs A ad0 c0 s0 nL (pcs k) ls st h := by
  obtain ⟨hn, hsl, hT, hI, hJ, hRr⟩ := h
  unfold am_put at eq
  split at eq
  · split at eq
    · rename_i v a st
      obtain ⟨⟨g1, g2, g3⟩, eq⟩ := am_g_some eq
      cases eq
      refine sn_put0 (h := (hn, hsl, hT, hI, hJ, hRr)) (h' := (hn, hsl, hT, up2 hI a f v, hJ, hRr)) X hd hp hf hfin g1 g2 g3 rfl rfl rfl (fun q hq => ⟨up2_a _ _ _ _ q hq, rfl, rfl⟩) (fun j hj => ⟨up2_j _ _ _ _ j hj, rfl, rfl⟩) (fun hr hv => ⟨up2_rg hr.1 hv, hr.2⟩) (fun ad => ?_) (fun ty ad hy => ?_) hk
      · show cvv ad (.inl v) = cfv ad 0 (up2 hI a f v a f) _ _
        rw [up2_s]; rfl
      · rcases hy with ⟨-, rfl⟩ | ⟨z, -⟩ | ⟨z, -⟩ | ⟨z, -⟩
        · exact ⟨rfl, rfl⟩
        · omega
        · omega
        · omega
    · cases eq
  · split at eq
    · rename_i v a st
      obtain ⟨⟨g1, g2, g3⟩, eq⟩ := am_g_some eq
      cases eq
      refine sn_put0 (h := (hn, hsl, hT, hI, hJ, hRr)) (h' := (hn, hsl, hT, hI, up2 hJ a f v, hRr)) X hd hp hf hfin g1 g2 g3 rfl rfl rfl (fun q hq => ⟨rfl, up2_a _ _ _ _ q hq, rfl⟩) (fun j hj => ⟨rfl, up2_j _ _ _ _ j hj, rfl⟩) (fun hr hv => ⟨hr.1, up2_rg hr.2.1 hv, hr.2.2⟩) (fun ad => ?_) (fun ty ad hy => ?_) hk
      · show cvv ad (.inr (.inl v)) = cfv ad 1 _ (up2 hJ a f v a f) _
        rw [up2_s]; rfl
      · rcases hy with ⟨z, -⟩ | ⟨-, rfl⟩ | ⟨z, -⟩ | ⟨z, -⟩
        · omega
        · exact ⟨rfl, rfl⟩
        · omega
        · omega
    · cases eq
  · split at eq
    · rename_i v a st
      obtain ⟨⟨g1, g2, g3, g4⟩, eq⟩ := am_g_some eq
      cases eq
      refine sn_put0 (h := (hn, hsl, hT, hI, hJ, hRr)) (h' := (hn, hsl, hT, hI, hJ, up2 hRr a f (some v))) X hd hp hf hfin g1 g2 g3 rfl rfl rfl (fun q hq => ⟨rfl, rfl, up2_a _ _ _ _ q hq⟩) (fun j hj => ⟨rfl, rfl, up2_j _ _ _ _ j hj⟩) (fun hr hv => ⟨hr.1, hr.2.1, fun x y r hxy => ?_⟩) (fun ad => ?_) (fun ty ad hy => ?_) hk
      · have hxy : up2 hRr a f (some v) x y = some r := hxy
        unfold up2 at hxy
        split at hxy
        · cases hxy; exact g4
        · exact hr.2.2 x y r hxy
      · show cvv ad (.inr (.inr (some v))) = cfv ad 2 _ _ (up2 hRr a f (some v) a f)
        rw [up2_s]; rfl
      · rcases hy with ⟨z, -⟩ | ⟨z, -⟩ | ⟨-, z⟩ | ⟨z, -⟩
        · omega
        · omega
        · cases ty <;> first | exact ⟨rfl, rfl⟩ | cases z
        · omega
    · cases eq
  · rename_i n0 n1 n2
    split at eq
    · rename_i v a st
      obtain ⟨⟨g1, g2, g3, g4, g5⟩, eq⟩ := am_g_some eq
      cases eq
      have hkd : kind = 3 := by
        obtain ⟨C, T, N, hv, hN, -, hkd, -⟩ := fr_ok hf
        obtain ⟨-, -, ty0, hty⟩ := cl_ok hv
        rcases (hty f hN).2 with ⟨z, -⟩ | ⟨z, -⟩ | ⟨z, -⟩ | ⟨z, -⟩
        · exact absurd (hkd.symm.trans z) n0
        · exact absurd (hkd.symm.trans z) n1
        · exact absurd (hkd.symm.trans z) n2
        · exact hkd.symm.trans z
      refine sn_put0 (h := (hn, hsl, hT, hI, hJ, hRr)) (h' := (hn, hsl, hT, up2 hI a f v, hJ, hRr)) X hd hp hf hfin g1 g2 g3 rfl rfl rfl (fun q hq => ⟨up2_a _ _ _ _ q hq, rfl, rfl⟩) (fun j hj => ⟨up2_j _ _ _ _ j hj, rfl, rfl⟩) (fun hr hv => ⟨up2_rg hr.1 hv, hr.2⟩) (fun ad => ?_) (fun ty ad hy => ?_) hk
      · show cvv ad (.inl v) = cfv ad kind (up2 hI a f v a f) _ _
        rw [up2_s, hkd]; rfl
      · have hvv : v = 0 ∨ v = 1 := by omega
        rcases hy with ⟨z, -⟩ | ⟨z, -⟩ | ⟨z, -⟩ | ⟨-, rfl⟩
        · omega
        · omega
        · omega
        · rcases hvv with rfl | rfl <;> exact ⟨rfl, rfl⟩
    · cases eq
end SND4
