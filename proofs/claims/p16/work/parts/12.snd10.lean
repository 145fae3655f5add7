/-! part 10: contracts of all methods, out of runs of the abstract machine -/
theorem Met_ofWF {l : Launch} {y : MethodName} {ws ws' : List Jvm.Cond} {rm : Room} {Pc : Array Value → State → Prop} {Qc : Array Value → State → Outcome → State → Prop} {mc ms : Nat} {free : Addr → Prop} {cc : ByteArray} {maxL : Nat} {ret : Option FieldType}
    (hy : plainFor y = true) (hw : ws = Jvm.Cond.code y cc maxL ret :: ws')
    (body : ∀ p e s m args below meth c s₁, BodyLoose p l y (headSpec ws rm) cc maxL ret e s m args below meth c s₁ → c.maxLocals = maxL → Pc args s →
      W p l e (headSpec ws rm).room s m args below meth c s.heap [] 0 0 (MQ below Qc args s mc ms free) (entryFrame m args maxL)) : Met l y ws rm Pc Qc mc ms free := by
  refine MetFree.of_bodySF (code := cc) (maxLocals := maxL) (ret := ret) hy ?_ ?_
  · intro args s m h hn
    obtain ⟨meth, c, h1, h2, h3, h4, h5, h6, -, -⟩ := Cond.code_spec hn (atoms_spec (ws := ws) h _ (by rw [hw]; exact List.mem_cons_self))
    exact ⟨meth, c, h1, h2, h3, h4, h5, h6⟩
  · intro p e s m args below meth c s₁ B hml hP _
    have hh0 : s₁.heap = s.heap := by rw [B.state]; rfl
    obtain ⟨t, a1, o, b1, b2, b3⟩ := body p e s m args below meth c s₁ B hml hP s₁ hh0 (Stand.of_body B)
    exact ⟨t, o, a1, b1, b2, ⟨b3.1, b3.2⟩⟩
def wsM (mi : Nat) : List Jvm.Cond := .code (mY mi) (mB mi) (mX mi) (mR mi) :: gtW
theorem mt_ok {c : Nat} (h1 : 1 ≤ c) (h2 : c < 226) : Jvm.Cond.code (mY c) (mB c) (mX c) (mR c) ∈ gtW ∧ Jvm.Cond.initialized (mY c).cls ∈ gtW ∧ plainFor (mY c) = true ∧ mX c ≤ 45 ∧ (mY c).cls ≠ "java/lang/invoke/MethodHandle" ∧ (mY c).cls ≠ "java/lang/invoke/VarHandle" ∧ (parseMethodDescriptor (mY c).desc).map (fun d => d.parameters.length) = some (mP c) ∧ ownN (mO c) = (mY c).cls := by
  have hm : c ∈ (List.range 226).drop 1 := by
    refine List.mem_of_getElem? (i := c - 1) ?_
    rw [List.getElem?_drop, show 1 + (c - 1) = c by omega, List.getElem?_range h2]
  have h := List.all_eq_true.mp mtA c hm
  unfold mtC at h
  simp only [Bool.and_eq_true, decide_eq_true_eq] at h
  obtain ⟨⟨⟨⟨⟨⟨⟨a1, a2⟩, a3⟩, a4⟩, a5⟩, a6⟩, a7⟩, a8⟩ := h
  refine ⟨?_, wB_of a2, a3, a4, a5, a6, a7, a8⟩
  have e := isC_of a1
  have eB : mB c = cdOf (lw_tbl[(mWL.getD c (0, 0)).1]?) := by unfold mB; rw [if_neg (by omega)]
  rw [← eB] at e
  exact List.mem_filter.mpr ⟨List.mem_of_getElem? e, rfl⟩
theorem gt_good : ∀ w ∈ gtW, goodWord w = true := fun w h => (List.mem_filter.mp h).2
theorem good_wsM {c : Nat} (h1 : 1 ≤ c) (h2 : c < 226) : GoodIn gtW (wsM c) := by
  intro w hw
  rcases List.mem_cons.mp hw with rfl | hw
  · exact ⟨(mt_ok h1 h2).1, good_of_word (gt_good _ (mt_ok h1 h2).1)⟩
  · exact ⟨hw, good_of_word (gt_good _ hw)⟩
theorem crN : crD.all (fun q => decide (1 ≤ q.2.2.2.1) && decide (q.2.2.2.1 < 226)) = true := by decide +kernel
theorem cr_ok {oi ix kd c na tag : Nat} (h : crB oi ix kd c na tag = true) : (1 ≤ c ∧ c < 226) ∧ ∃ w1 w2 w3, crC (oi, ix, kd, c, na, tag, w1, w2, w3) = true := by
  unfold crB at h
  obtain ⟨q, hq, hm⟩ := List.any_eq_true.mp h
  have hc := List.all_eq_true.mp crA q hq
  have hn := List.all_eq_true.mp crN q hq
  obtain ⟨oi', ix', kd', c', na', tag', w1, w2, w3⟩ := q
  simp only [Bool.and_eq_true, beq_iff_eq, decide_eq_true_eq] at hm hn
  obtain ⟨⟨⟨⟨⟨rfl, rfl⟩, rfl⟩, rfl⟩, rfl⟩, rfl⟩ := hm
  exact ⟨hn, w1, w2, w3, hc⟩
theorem cr0 {oi ix c na tag : Nat} (h : crB oi ix 0 c na tag = true) : (1 ≤ c ∧ c < 226) ∧ Jvm.Cond.methodLink (ownN oi) ix (mY c) ∈ gtW ∧ Jvm.Cond.instanceMethod (mY c) ∈ gtW ∧ Jvm.Cond.selects (mY c).cls (mY c) (mY c) ∈ gtW ∧ na = mP c + 1 ∧ ∃ q, vwCl[tag]? = some q ∧ q.1 = (mY c).cls := by
  obtain ⟨h0, w1, w2, w3, hc⟩ := cr_ok h
  simp only [crC, Bool.and_eq_true, decide_eq_true_eq] at hc
  obtain ⟨-, ⟨⟨⟨a1, a2⟩, a3⟩, a4⟩, a5⟩ := hc
  refine ⟨h0, wB_of a1, wB_of a2, wB_of a3, a4, ?_⟩
  split at a5
  · rename_i q hq
    exact ⟨q, hq, by simpa using a5⟩
  · cases a5
theorem cr4 {oi ix c na tag : Nat} (h : crB oi ix 4 c na tag = true) : (1 ≤ c ∧ c < 226) ∧ Jvm.Cond.methodLink (ownN oi) ix (mY c) ∈ gtW ∧ Jvm.Cond.instanceMethod (mY c) ∈ gtW ∧ Jvm.Cond.selects (mY c).cls (mY c) (mY c) ∈ gtW ∧ na = mP c + 1 ∧ (mY c).cls = "java/lang/String" := by
  obtain ⟨h0, w1, w2, w3, hc⟩ := cr_ok h
  simp only [crC, Bool.and_eq_true, decide_eq_true_eq] at hc
  obtain ⟨-, ⟨⟨⟨a1, a2⟩, a3⟩, a4⟩, a5⟩ := hc
  exact ⟨h0, wB_of a1, wB_of a2, wB_of a3, a4, a5⟩
theorem cr1 {oi ix c na tag : Nat} (h : crB oi ix 1 c na tag = true) : (1 ≤ c ∧ c < 226) ∧ Jvm.Cond.methodLink (ownN oi) ix (mY c) ∈ gtW ∧ Jvm.Cond.static (mY c) ∈ gtW ∧ na = mP c := by
  obtain ⟨h0, w1, w2, w3, hc⟩ := cr_ok h
  simp only [crC, Bool.and_eq_true, decide_eq_true_eq] at hc
  obtain ⟨-, ⟨a1, a2⟩, a3⟩ := hc
  exact ⟨h0, wB_of a1, wB_of a2, a3⟩
theorem cr2 {oi ix c na tag : Nat} (h : crB oi ix 2 c na tag = true) : (1 ≤ c ∧ c < 226) ∧ Jvm.Cond.methodLink (ownN oi) ix (mY c) ∈ gtW ∧ Jvm.Cond.instanceMethod (mY c) ∈ gtW ∧ na = mP c + 1 ∧ (mY c).name = "<init>" ∧ mR c = none := by
  obtain ⟨h0, w1, w2, w3, hc⟩ := cr_ok h
  simp only [crC, Bool.and_eq_true, decide_eq_true_eq] at hc
  obtain ⟨-, ⟨⟨⟨a1, a2⟩, a3⟩, a4⟩, a5⟩ := hc
  exact ⟨h0, wB_of a1, wB_of a2, a3, a4, a5⟩
theorem cr3 {oi ix c na tag : Nat} (h : crB oi ix 3 c na tag = true) : (1 ≤ c ∧ c < 226) ∧ Jvm.Cond.methodLinkNest (ownN oi) ix (mY c) "StarDays" ∈ nestW ∧ Jvm.Cond.instanceMethod (mY c) ∈ gtW ∧ na = mP c + 1 ∧ (mY c).name = "<init>" ∧ mR c = none := by
  obtain ⟨h0, w1, w2, w3, hc⟩ := cr_ok h
  simp only [crC, Bool.and_eq_true, decide_eq_true_eq] at hc
  obtain ⟨-, ⟨⟨⟨a1, a2⟩, a3⟩, a4⟩, a5⟩ := hc
  exact ⟨h0, a1, wB_of a2, a3, a4, a5⟩
theorem am_rcv_of {mx : Nat} {ns : List Nat} {st : List AV} {h : AH} (hr : am_rcv mx ns st h = true) : am_cats (st.take (ns.getD 1 0)) ≤ mx ∧ am_cats (st.drop (ns.getD 1 0)) ≤ 8 ∧ ns.getD 1 0 ≤ st.length ∧ (ns.getD 2 0 = 0 ∨ (ns.getD 2 0 = 2 ∧ st[ns.getD 1 0 - 1]? = some (.inr (.inr (some 1000001)))) ∨ ns.getD 2 0 ≠ 2 ∧ ∃ a, st[ns.getD 1 0 - 1]? = some (.inr (.inr (some a))) ∧ (h.2.2.1 a).1 = ns.getD 3 0 ∧ a < h.1) := by
  unfold am_rcv at hr
  simp only [Bool.and_eq_true, Bool.or_eq_true, decide_eq_true_eq] at hr
  obtain ⟨⟨⟨h1, h2⟩, h3⟩, h4⟩ := hr
  refine ⟨h1, h2, h3, ?_⟩
  rcases h4 with h4 | h4
  · exact Or.inl h4
  · split at h4
    · rename_i a ha
      split at h4
      · rename_i e2
        have h4 := of_decide_eq_true h4
        subst h4
        exact Or.inr (Or.inl ⟨e2, ha⟩)
      · rename_i e2
        simp only [Bool.and_eq_true, decide_eq_true_eq] at h4
        exact Or.inr (Or.inr ⟨e2, a, ha, h4.1, h4.2⟩)
    · cases h4
theorem am_cats_app (l1 l2 : List AV) : am_cats (l1 ++ l2) = am_cats l1 + am_cats l2 := by
  induction l1 with
  | nil => simp [am_cats]
  | cons v t ih => simp only [List.cons_append, am_cats, ih]; omega
theorem am_cats_rev (l : List AV) : am_cats l.reverse = am_cats l := by
  induction l with
  | nil => rfl
  | cons v t ih => rw [List.reverse_cons, am_cats_app, ih]; simp only [am_cats]; omega
set_option maxRecDepth 20000 in
theorem cd900 : (codeT 900)[0]? = none := by
  have : codeT 900 = [] := by
    unfold codeT
    rw [List.getD_eq_getElem?_getD, List.getElem?_eq_none (show cdL.length ≤ 900 from Nat.le_of_ble_eq_true rfl)]
    rfl
  rw [this]
  rfl
theorem pc0A : (List.range 226).all (fun i => decide ((pcT i).getD 0 0 = 0)) = true := by decide +kernel
theorem pcz {mi : Nat} (h : mi < 226) : (pcT mi).getD 0 0 = 0 := by simpa using List.all_eq_true.mp pc0A mi (List.mem_range.mpr h)
-- the start of a frame
theorem ent_0 (as : List AV) : am_ent 0 as = [] := by cases as <;> rfl
theorem ent_N (n : Nat) : am_ent (n + 1) [] = none :: am_ent n [] := rfl
theorem ent_I (n : Nat) (z : Int) (as : List AV) : am_ent (n + 1) (.inl z :: as) = some (.inl z) :: am_ent n as := rfl
theorem ent_A (n : Nat) (o : Option Nat) (as : List AV) : am_ent (n + 1) (.inr (.inr o) :: as) = some (.inr (.inr o)) :: am_ent n as := rfl
theorem ent_L1 (z : Int) (as : List AV) : am_ent 1 (.inr (.inl z) :: as) = [some (.inr (.inl z))] := rfl
theorem ent_L (n : Nat) (z : Int) (as : List AV) : am_ent (n + 1 + 1) (.inr (.inl z) :: as) = some (.inr (.inl z)) :: none :: am_ent n as := rfl
theorem lvE_args (ad : Nat → Nat) : ∀ (n : Nat) (as : List AV) (i : Nat), ∀ q ∈ lvE ad (am_ent n as) i, q ∈ lv_args i (as.map (cvv ad)) := by
  intro n
  induction n using Nat.strongRecOn with
  | _ n ih =>
    intro as i q hq
    cases n with
    | zero => rw [ent_0] at hq; cases hq
    | succ n =>
      cases as with
      | nil =>
        rw [ent_N, lvE] at hq
        have := ih n (Nat.lt_succ_self n) [] (i + 1) q hq
        simp [lv_args] at this
      | cons a as =>
        rw [List.map_cons, lv_args, List.mem_cons]
        rcases a with z | z | o
        · rw [ent_I, lvE, List.mem_cons] at hq
          rcases hq with hq | hq
          · exact Or.inl hq
          · exact Or.inr (by
              have := ih n (Nat.lt_succ_self n) as (i + 1) q hq
              simpa [cvv, Value.category] using this)
        · cases n with
          | zero =>
            rw [ent_L1, lvE, List.mem_cons] at hq
            rcases hq with hq | hq
            · exact Or.inl hq
            · cases hq
          | succ n =>
            rw [ent_L, lvE, List.mem_cons, lvE] at hq
            rcases hq with hq | hq
            · exact Or.inl hq
            · exact Or.inr (by
                have := ih n (by omega) as (i + 1 + 1) q hq
                simpa [cvv, Value.category] using this)
        · rw [ent_A, lvE, List.mem_cons] at hq
          rcases hq with hq | hq
          · exact Or.inl hq
          · refine Or.inr (by
              have := ih n (Nat.lt_succ_self n) as (i + 1) q hq
              have e9 : (cvv ad (.inr (.inr o))).category = 1 := by cases o <;> rfl
              rw [e9, if_neg (by decide)]
              exact this)
theorem am_ent_len : ∀ (n : Nat) (as : List AV), (am_ent n as).length = n := by
  intro n
  induction n using Nat.strongRecOn with
  | _ n ih =>
    intro as
    cases n with
    | zero => rw [ent_0]; rfl
    | succ n =>
      cases as with
      | nil => rw [ent_N, List.length_cons, ih n (Nat.lt_succ_self n)]
      | cons a as =>
        rcases a with z | z | o
        · rw [ent_I, List.length_cons, ih n (Nat.lt_succ_self n)]
        · cases n with
          | zero => rfl
          | succ n => rw [ent_L, List.length_cons, List.length_cons, ih n (by omega)]
        · rw [ent_A, List.length_cons, ih n (Nat.lt_succ_self n)]
theorem am_ent_mem {v : AV} : ∀ (n : Nat) (as : List AV) (j : Nat), (am_ent n as)[j]? = some (some v) → v ∈ as := by
  intro n
  induction n using Nat.strongRecOn with
  | _ n ih =>
    intro as j h
    cases n with
    | zero => rw [ent_0] at h; simp at h
    | succ n =>
      cases as with
      | nil =>
        rw [ent_N] at h
        cases j with
        | zero => simp at h
        | succ j => exact ih n (Nat.lt_succ_self n) _ j (by simpa using h)
      | cons a as =>
        rcases a with z | z | o
        · rw [ent_I] at h
          cases j with
          | zero => simp at h; subst h; exact List.mem_cons_self
          | succ j => exact List.mem_cons_of_mem _ (ih n (Nat.lt_succ_self n) _ j (by simpa using h))
        · cases n with
          | zero =>
            rw [ent_L1] at h
            cases j with
            | zero => simp at h; subst h; exact List.mem_cons_self
            | succ j => simp at h
          | succ n =>
            rw [ent_L] at h
            cases j with
            | zero => simp at h; subst h; exact List.mem_cons_self
            | succ j =>
              cases j with
              | zero => simp at h
              | succ j => exact List.mem_cons_of_mem _ (ih n (by omega) _ j (by simpa using h))
        · rw [ent_A] at h
          cases j with
          | zero => simp at h; subst h; exact List.mem_cons_self
          | succ j => exact List.mem_cons_of_mem _ (ih n (Nat.lt_succ_self n) _ j (by simpa using h))
theorem lg_sl_len (ad : Nat → Nat) (as : List AV) : (lg_sl (as.map (cvv ad))).length = am_cats as := by
  induction as with
  | nil => rfl
  | cons a as ih =>
    unfold lg_sl at ih ⊢
    rw [List.map_cons, List.flatMap_cons, List.length_append, ih, am_cats, ← cvv_cat ad a]
    split
    · rename_i h; rw [h]; rfl
    · rename_i h
      have : (cvv ad a).category = 1 := by
        rcases lv_cat (cvv ad a) with q | q
        · exact q
        · exact absurd q h
      rw [this]
      rfl
theorem lrE_ent {ad : Nat → Nat} {n nL : Nat} {as : List AV} (hin : ∀ v ∈ as, inR n v) (hc : am_cats as ≤ nL) : lrE ad n nL (am_ent nL as) ((lg_sl (as.map (cvv ad)) ++ List.replicate (nL - (lg_sl (as.map (cvv ad))).length) Slot.unset).toArray) :=
  ⟨am_ent_len _ _, lv_mono (lv_entry (as.map (cvv ad)) (by rw [lg_sl_len]; exact hc)) (lvE_args ad nL as 0), fun _ _ h => hin _ (am_ent_mem _ _ _ h)⟩
-- contracts
def PBE (tyC : Nat → ClassId) (D : va_G) (b L : Nat) (sa : Nat × Nat) (base : Nat) (xs : Nat → Int32) (ad : Nat → Nat) (h : AH) (sz : Nat) (h' : AH) : (Nat → Nat) → State → Prop := fun ad' t => RepE tyC D b L sa base xs ad h.1 (va_A (wsE tyC ad h) sz) ad' h' t.heap
def QcE (tyC : Nat → ClassId) (D : va_G) (b L : Nat) (sa : Nat × Nat) (base : Nat) (xs : Nat → Int32) (ad : Nat → Nat) (h : AH) (sz : Nat) (v : Option AV) (h' : AH) : Array Value → State → Outcome → State → Prop := match v with
  | none => va_Qv (S := Nat → Nat) (fun _ => True) (PBE tyC D b L sa base xs ad h sz h') (va_A (wsE tyC ad h) sz)
  | some (.inl z) => va_Qi (S := Nat → Nat) (fun r _ => r = Int32.ofInt z ∧ rg32 z) (PBE tyC D b L sa base xs ad h sz h') (va_A (wsE tyC ad h) sz)
  | some (.inr (.inl z)) => va_Ql (S := Nat → Nat) (fun r _ => r = Int64.ofInt z ∧ rg64 z) (PBE tyC D b L sa base xs ad h sz h') (va_A (wsE tyC ad h) sz)
  | some (.inr (.inr _)) => fun _ _ _ _ => False
def WdE (tyC : Nat → ClassId) (D : va_G) (b L : Nat) (sa : Nat × Nat) (base : Nat) (xs : Nat → Int32) (U : State) : Prop := va_K D vwCl (tysE tyC) U ∧ (∀ w ∈ nestW, va_Nw w U) ∧ ((Jvm.Cond.arrayOver (.object "StarDays$Law")).before #[] U = true ∧ (Jvm.Cond.arrayOver (.array .int)).before #[] U = true) ∧ b < base
def PcE (tyC : Nat → ClassId) (D : va_G) (b L : Nat) (sa : Nat × Nat) (base : Nat) (xs : Nat → Int32) (as : List AV) (ad : Nat → Nat) (h : AH) (sz : Nat) : Array Value → State → Prop := va_Pc (as.map (cvv ad)) (fun U => U.heap.size = sz ∧ RepE tyC D b L sa base xs ad h.1 (va_A (wsE tyC ad h) sz) ad h U.heap ∧ WdE tyC D b L sa base xs U ∧ (va_X b L xs U U.heap ∧ TxE sa base U U.heap) ∧ base ≤ U.heap.size)
theorem nestOn : nestW.all (fun w => w.onTables) = true := by decide +kernel
theorem nestSh : ∀ w ∈ nestW, ∃ (a : String) (i : Nat) (x : MethodName) (h : String), w = .methodLinkNest a i x h := by
  intro w hw
  unfold nestW at hw
  simp only [List.mem_cons, List.not_mem_nil, or_false] at hw
  rcases hw with rfl | rfl | rfl | rfl | rfl | rfl | rfl | rfl | rfl | rfl | rfl | rfl <;> exact ⟨_, _, _, _, rfl⟩
theorem WdE_same {tyC : Nat → ClassId} {D : va_G} {b L : Nat} {sa : Nat × Nat} {base : Nat} {xs : Nat → Int32} {u U : State} (hv : u.vm = U.vm) (h : WdE tyC D b L sa base xs u) : WdE tyC D b L sa base xs U := by
  obtain ⟨h1, h2, ⟨h3, h4⟩, h5⟩ := h
  have hal : u.vm.Alike U.vm := by rw [hv]; exact Vm.Alike.refl _
  exact ⟨va_K.moved hal h1, fun w hw => va_Nw.same (List.all_eq_true.mp nestOn w hw) hv (h2 w hw), ⟨va_AO.moved hal h3, Jvm.Stand.arrayOver_alikeB hal h4⟩, h5⟩
theorem WdE_warm {tyC : Nat → ClassId} {D : va_G} {b L : Nat} {sa : Nat × Nat} {base : Nat} {xs : Nat → Int32} {u U : State} (hW : u.WarmedH U.vm) (h : WdE tyC D b L sa base xs u) : WdE tyC D b L sa base xs U := by
  obtain ⟨h1, h2, ⟨h3, h4⟩, h5⟩ := h
  have hal : u.vm.Alike U.vm := hW.alike
  refine ⟨va_K.moved hal h1, fun w hw => ?_, ⟨va_AO.moved hal h3, Jvm.Stand.arrayOver_alikeB hal h4⟩, h5⟩
  obtain ⟨a, i, x, hh, rfl⟩ := nestSh w hw
  exact va_Nw.warmM hW (h2 _ hw)
theorem PcE_blind {tyC : Nat → ClassId} {D : va_G} {b L : Nat} {sa : Nat × Nat} {base : Nat} {xs : Nat → Int32} {as : List AV} {ad : Nat → Nat} {h : AH} {sz : Nat} : FrameBlind (PcE tyC D b L sa base xs as ad h sz) := by
  intro a U g mk q
  obtain ⟨q0, q1, q2, q3, q4, q5⟩ := q
  exact ⟨q0, q1, q2, WdE_same (u := U) (U := U.calling g mk a) rfl q3, ⟨va_X.moved (u := U) (U := U.calling g mk a) (Vm.Alike.refl U.vm) q4.1, TxE_same (u := U) (U := U.calling g mk a) rfl q4.2⟩, q5⟩
