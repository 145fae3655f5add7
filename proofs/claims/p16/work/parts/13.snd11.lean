/-! part 11: runs of the abstract machine are runs of the real one -/
section SND11
variable {p : Program} {l : Launch} {e : Env} {R : Room} {s : State} {m : MethodId} {args : Array Value} {below : List Frame} {meth : Method} {c : Code} {Q : State → Prop}
variable {tyC : Nat → ClassId} {D : va_G} {b L : Nat} {sa : Nat × Nat} {base : Nat} {xs : Nat → Int32} {A : Nat → Prop} {ad0 : Nat → Nat} {c0 s0 nL oi : Nat} {ct : Bool} {cc : ByteArray} {k : Nat} {ls : AL} {st : List AV} {h : AH}
/-- behind a call -/
theorem back_snd {pc0 : Nat} {ad : Nat → Nat} {H : Heap} {locs : List Loc} {cls : Array Slot} {cells slots mc ms : Nat} {v1 : Option AV} {h2 : AH} {rest : List AV} {st0 : List Value} {a9 : Array Value} (hrun : va_Run p l e R s m args below meth c H locs cells slots mc ms (F0 m pc0 cls st0) (rest.map (cvv ad)) (QcE tyC D b L sa base xs ad h H.size v1 h2 a9) (va_A (wsE tyC ad h) H.size)) (hmc : h.1 + mc = h2.1) (hms : h.2.1 + ms = h2.2.1)
    (hA : ∀ q : Nat, s.heap.size ≤ q → A q) (hR : RepE tyC D b L sa base xs ad0 c0 A ad h H) (hS : va_S A s.heap H locs) (hl : lrE ad h.1 nL ls cls) (hst : ∀ v ∈ rest, inR h.1 v) (hc : cells + c0 = h.1) (hs : slots + s0 = h.2.1)
    (hk : SW p l e R s m args below meth c Q tyC D b L sa base xs A ad0 c0 s0 nL (pc0 + 3) ls (v1.toList ++ rest) h2) : W p l e R s m args below meth c H locs cells slots Q (F0 m pc0 cls st0) := by
  obtain ⟨hP, hD, hr, g1, g2, g3, g4, g5, g6, g7⟩ := id hR
  have hAA : ∀ q, va_A (wsE tyC ad h) H.size q → A q := by
    intro q hq
    rcases hq with ⟨k9, e9, h9⟩ | h9
    · exact hD.2 k9 _ h9
    · exact hA q (Nat.le_trans hS.1 h9)
  have conv : ∀ (ad' : Nat → Nat) (t : State), PBE tyC D b L sa base xs ad h H.size h2 ad' t → RepE tyC D b L sa base xs ad0 c0 A ad' h2 t.heap ∧ (∀ a, a < h.1 → ad' a = ad a) ∧ ad' 1000000 = ad 1000000 ∧ (ad' 1000001 = ad 1000001 ∧ ad' 1000002 = ad 1000002) := by
    intro ad' t hB
    obtain ⟨p1, p2, p3, p4, p5, p6, p7, p8, p9, p10⟩ := hB
    have ag : ∀ a, a < h.1 → ad' a = ad a := fun a ha => (p10 a (by omega)).2 ha
    exact ⟨⟨p1, p2.weaken (fun _ q _ h9 => hAA q.1 h9), p3, p4, p5, p6, p7, p8, p9, fun a ha => ⟨(p10 a ha).1, fun hc9 => by rw [ag a (by omega)]; exact (g7 a (by omega)).2 hc9⟩⟩, ag, p4.trans g1.symm, ⟨p7.1.trans g4.1.symm, p7.2.trans g4.2.symm⟩⟩
  have fin : ∀ (ad' : Nat → Nat) (t : State) (H1 : Heap) (locs1 : List Loc), t.heap = H1 → PBE tyC D b L sa base xs ad h H.size h2 ad' t → va_S A s.heap H1 locs1 → (∀ v ∈ v1.toList, inR h2.1 v) → W p l e R s m args below meth c H1 locs1 (cells + mc) (slots + ms) Q (F0 m (pc0 + 3) cls ((v1.toList).map (cvv ad') ++ rest.map (cvv ad))) := by
    intro ad' t H1 locs1 ht hB hS1 hv1
    obtain ⟨hR2, a1, a2, a3⟩ := conv ad' t hB
    rw [ht] at hR2
    have go := hk ad' H1 locs1 cls (cells + mc) (slots + ms) hR2 hS1 (lrE_ad hl (by omega) a1 a2 a3) (fun v hv => (List.mem_append.mp hv).elim (hv1 v) (fun hv => inR_le (hst v hv) (by omega))) (by omega) (by omega)
    rw [List.map_append, map_ad hst a1 a2 a3] at go
    exact go
  match v1, hrun, fin with
  | none, hrun, fin => exact va_callv (a := a9) hrun hS (fun q _ hq => hAA q hq) hAA (fun u t H1 locs1 ht hvm hw hB hz hk1 hS1 => fin u t H1 locs1 ht hB hS1 (fun v hv => by cases hv))
  | some (.inl z), hrun, fin => exact va_calli (a := a9) hrun hS (fun q _ hq => hAA q hq) hAA (fun r u t H1 locs1 ht hvm hw hB hz hk1 hS1 => by
      have go := fin u t H1 locs1 ht hB hS1 (fun v hv => by rw [List.mem_singleton.mp hv]; exact hw.2)
      rw [hw.1]
      exact go)
  | some (.inr (.inl z)), hrun, fin => exact va_calll (a := a9) hrun hS (fun q _ hq => hAA q hq) hAA (fun r u t H1 locs1 ht hvm hw hB hz hk1 hS1 => by
      have go := fin u t H1 locs1 ht hB hS1 (fun v hv => by rw [List.mem_singleton.mp hv]; exact hw.2)
      rw [hw.1]
      exact go)
  | some (.inr (.inr o)), hrun, fin =>
    intro T hT X
    obtain ⟨v, st₀, t, T', L9, h0, X', hL, e1, e2, hq, st⟩ := hrun T hT X
    exact hq.elim
end SND11
/-- what the machine of part 1 does from a frame on, the real one does -/
def RETP (p : Program) (l : Launch) (e : Env) (R : Room) (s : State) (m : MethodId) (args : Array Value) (below : List Frame) (meth : Method) (c : Code) (Q : State → Prop) (tyC : Nat → ClassId) (D : va_G) (b L : Nat) (sa : Nat × Nat) (base : Nat) (xs : Nat → Int32) (A : Nat → Prop) (ad0 : Nat → Nat) (c0 s0 mi : Nat) (v : Option AV) (h' : AH) : Prop :=
  ∀ (k : Nat) (i : Instr) (z : Int) (ns : List Nat) (ls : AL) (st : List AV), insB (mO mi) (decide ((mY mi).name = "<init>")) (mR mi) (mB mi) ((pcT mi).getD k 0) ((pcT mi).getD (k + 1) 0) (fun j => (pcT mi).getD j 0) i z ns = true → ¬ am_kind i ns = 0 → ¬ am_kind i ns = 1 → am_ret i ns st = some v → SW p l e R s m args below meth c Q tyC D b L sa base xs A ad0 c0 s0 (mX mi) ((pcT mi).getD k 0) ls st h'
def FRM (n : Nat) : Prop := ∀ (d mi k : Nat) (ls : AL) (st : List AV) (h : AH) (v : Option AV) (h' : AH), ev codeT mX n d mi k ls st h = some (v, h') → mi < 226 → ∀ (p : Program) (l : Launch) (e : Env) (R : Room) (s : State) (m : MethodId) (args : Array Value) (below : List Frame) (meth : Method) (c : Code) (Q : State → Prop) (tyC : Nat → ClassId) (D : va_G) (b L : Nat) (sa : Nat × Nat) (base : Nat) (xs : Nat → Int32) (A : Nat → Prop) (ad0 : Nat → Nat) (c0 s0 : Nat), CTX p R s m args meth c tyC D b L sa base xs A (mB mi) (mX mi) (mO mi) (decide ((mY mi).name = "<init>")) → d + 1 ≤ R.frames → 64 * d + 64 ≤ R.locals → h'.1 ≤ c0 + R.cells ∧ h'.2.1 ≤ s0 + R.slots → RETP p l e R s m args below meth c Q tyC D b L sa base xs A ad0 c0 s0 mi v h' → SW p l e R s m args below meth c Q tyC D b L sa base xs A ad0 c0 s0 (mX mi) ((pcT mi).getD k 0) ls st h
theorem CTX_Wd {p : Program} {R : Room} {s : State} {m : MethodId} {args : Array Value} {meth : Method} {c : Code} {tyC : Nat → ClassId} {D : va_G} {b L : Nat} {sa : Nat × Nat} {base : Nat} {xs : Nat → Int32} {A : Nat → Prop} {cc : ByteArray} {nL oi : Nat} {ct : Bool} (X : CTX p R s m args meth c tyC D b L sa base xs A cc nL oi ct) : WdE tyC D b L sa base xs s := by
  obtain ⟨hx, hb, hml, hown, hts, hK, hN, ⟨ho1, ho2⟩, hA, hct, hX, hbb, hbs, hbA⟩ := X
  exact ⟨hK, hN, ⟨ho1, ho2.1⟩, hbb⟩
set_option maxHeartbeats 2000000 in
/-- a method's contract, out of its run -/
theorem met_of {n : Nat} (F : FRM n) {d c : Nat} {as : List AV} {h : AH} {v : Option AV} {h' : AH} (hc1 : 1 ≤ c) (hc2 : c < 226) (he : ev codeT mX n d c 0 (am_ent (mX c) as) [] h = some (v, h')) (hcat : am_cats as ≤ mX c) (l : Launch) (tyC : Nat → ClassId) (D : va_G) (b L : Nat) (sa : Nat × Nat) (base : Nat) (xs : Nat → Int32) (ad : Nat → Nat) (sz : Nat) (hin : ∀ w ∈ as, inR h.1 w) : Met l (mY c) (wsM c) { frames := d + 1, cells := h'.1 - h.1, slots := h'.2.1 - h.2.1, locals := 64 * d + 64 } (PcE tyC D b L sa base xs as ad h sz) (QcE tyC D b L sa base xs ad h sz v h') (h'.1 - h.1) (h'.2.1 - h.2.1) (va_A (wsE tyC ad h) sz) := by
  obtain ⟨hw1, hw2, hpl, hmx, -, -, -, hown9⟩ := mt_ok hc1 hc2
  have hgr := ev_grow codeT mX _ _ _ _ _ _ _ _ _ he
  refine Met_ofWF (cc := mB c) (maxL := mX c) (ret := mR c) hpl rfl ?_
  intro p e s m args below meth c9 s₁ B hml hv
  obtain ⟨rfl, hsz, hR, hWd, ⟨hX, hTx⟩, hbs⟩ := hv
  subst hsz
  obtain ⟨hK, hN, hao, hbb⟩ := hWd
  have hx := B.exec
  have hb := B.bytes
  have hr := B.returns
  have hlocks := B.notSynchronized
  have hts0 := atoms_spec (ws := wsM c) B.pre
  have hts : ∀ w ∈ gtW, w.before (as.map (cvv ad)).toArray s = true := fun w hw => hts0 w (List.mem_cons_of_mem _ hw)
  have hown : s.vm.findClass (ownN (mO c)) = some m.cls := by rw [hown9]; exact findClass_of_methodNamed B.named
  have hnm : meth.name = (mY c).name := (name_of_methodNamed B.named B.method).1
  have hA : ∀ q : Nat, s.heap.size ≤ q → va_A (wsE tyC ad h) s.heap.size q := fun q h9 => Or.inr h9
  have hbA : ∀ q, va_A (wsE tyC ad h) s.heap.size q → base ≤ q := by
    intro q hq
    rcases hq with ⟨k9, e9, h9⟩ | h9
    · obtain ⟨-, -, -, -, -, -, -, -, -, g7⟩ := hR
      have hk9 : k9 < h.1 := by have := (List.getElem?_eq_some_iff.mp h9).1; rw [wsE_len] at this; exact this
      rw [wsE_at hk9] at h9
      have : ad k9 = q := congrArg Prod.fst (Option.some.inj h9)
      rw [← this]
      exact (g7 k9 hk9).1
    · omega
  have CX : CTX p (headSpec (wsM c) { frames := d + 1, cells := h'.1 - h.1, slots := h'.2.1 - h.2.1, locals := 64 * d + 64 }).room s m (as.map (cvv ad)).toArray meth c9 tyC D b L sa base xs (va_A (wsE tyC ad h) s.heap.size) (mB c) (mX c) (mO c) (decide ((mY c).name = "<init>")) :=
    ⟨hx, hb, hml, hown, hts, hK, hN, ⟨hao.1, hao.2, hTx⟩, hA, fun q9 => by rw [hnm]; exact of_decide_eq_true q9, hX, hbb, hbs, hbA⟩
  rw [lg_entry_eq]
  have RT : RETP p l e (headSpec (wsM c) { frames := d + 1, cells := h'.1 - h.1, slots := h'.2.1 - h.2.1, locals := 64 * d + 64 }).room s m (as.map (cvv ad)).toArray below meth c9 (MQ below (QcE tyC D b L sa base xs ad h s.heap.size v h') (as.map (cvv ad)).toArray s (h'.1 - h.1) (h'.2.1 - h.2.1) (va_A (wsE tyC ad h) s.heap.size)) tyC D b L sa base xs (va_A (wsE tyC ad h) s.heap.size) ad h.1 h.2.1 c v h' := by
    intro k i z ns ls st hI h0 h1 hret ad' H locs cls cells slots hR' hS' hl' hst' hc' hs'
    have ec : h'.1 - h.1 = cells := by omega
    have es : h'.2.1 - h.2.1 = slots := by omega
    rw [ec, es]
    unfold am_ret at hret
    split at hret
    · rename_i z9
      obtain ⟨hcond, hret⟩ := am_g_some hret
      cases hret
      have hz : rg32 z9 := hst' _ List.mem_cons_self
      have hI : (decide (decode (mB c) ((pcT c).getD k 0) = .ok (.ireturn, 1)) && (ns.getD 0 0 == 0 && decide (mR c = some .int) || ns.getD 0 0 == 1 && decide (mR c = some .boolean) || ns.getD 0 0 == 2 && decide (mR c = some .byte))) = true := hI
      simp only [Bool.and_eq_true, Bool.or_eq_true, decide_eq_true_eq, beq_iff_eq] at hI
      obtain ⟨hdg, hI⟩ := hI
      rcases hI with (⟨-, q9⟩ | ⟨q8, q9⟩) | ⟨q8, q9⟩
      · exact W.iret (v := Int32.ofInt z9) hx hb (hr.trans q9) (fun t ht hW => ⟨⟨Int32.ofInt z9, ad', rfl, ⟨rfl, hz⟩, by unfold PBE; rw [ht]; exact hR'⟩, hS'.F ht⟩) hS'.2.2 hdg
      · have hz9 : z9 = 0 ∨ z9 = 1 := by
          rcases hcond with q | q | q
          · omega
          · exact Or.inl q
          · exact Or.inr q
        refine W.zret (v := Int32.ofInt z9) (ty := .boolean) hx hb (hr.trans q9) ?_ (fun t ht hW => ⟨⟨Int32.ofInt z9, ad', rfl, ⟨rfl, hz⟩, by unfold PBE; rw [ht]; exact hR'⟩, hS'.F ht⟩) hS'.2.2 hdg
        rcases hz9 with rfl | rfl <;> rfl
      · have hz9 : z9 = 0 ∨ z9 = 1 := by
          rcases hcond with q | q | q
          · omega
          · exact Or.inl q
          · exact Or.inr q
        refine W.zret (v := Int32.ofInt z9) (ty := .byte) hx hb (hr.trans q9) ?_ (fun t ht hW => ⟨⟨Int32.ofInt z9, ad', rfl, ⟨rfl, hz⟩, by unfold PBE; rw [ht]; exact hR'⟩, hS'.F ht⟩) hS'.2.2 hdg
        rcases hz9 with rfl | rfl <;> rfl
    · rename_i z9
      cases hret
      have hz : rg64 z9 := hst' _ List.mem_cons_self
      have hI : (decide (decode (mB c) ((pcT c).getD k 0) = .ok (.lreturn, 1)) && decide (mR c = some .long)) = true := hI
      simp only [Bool.and_eq_true, decide_eq_true_eq] at hI
      exact W.lret (v := Int64.ofInt z9) hx hb (hr.trans hI.2) (fun t ht hW => ⟨⟨Int64.ofInt z9, ad', rfl, ⟨rfl, hz⟩, by unfold PBE; rw [ht]; exact hR'⟩, hS'.F ht⟩) hS'.2.2 hI.1
    · cases hret
      have hI : (decide (decode (mB c) ((pcT c).getD k 0) = .ok (.return_, 1)) && decide (mR c = none)) = true := hI
      simp only [Bool.and_eq_true, decide_eq_true_eq] at hI
      exact W.vret hx hb (hr.trans hI.2) (fun t ht hW => ⟨⟨ad', rfl, trivial, by unfold PBE; rw [ht]; exact hR'⟩, hS'.F ht⟩) hS'.2.2 hI.1
    · cases hret
  have go := F d c 0 _ [] h v h' he hc2 p l e (headSpec (wsM c) { frames := d + 1, cells := h'.1 - h.1, slots := h'.2.1 - h.2.1, locals := 64 * d + 64 }).room s m (as.map (cvv ad)).toArray below meth c9 _ tyC D b L sa base xs (va_A (wsE tyC ad h) s.heap.size) ad h.1 h.2.1 CX (Nat.le_refl (d + 1)) (Nat.le_refl (64 * d + 64)) (by show h'.1 ≤ h.1 + (h'.1 - h.1) ∧ h'.2.1 ≤ h.2.1 + (h'.2.1 - h.2.1); omega) RT ad s.heap [] _ 0 0 hR va_S.rf (lrE_ent hin hcat) (fun v hv => by cases hv) (by omega) (by omega)
  rw [pcz hc2] at go
  exact go
