/-! THE CLAIM OUT OF ONE WALK OF THE LAW'S BODY. Your part is whole_start (and what it stands on); all else here is the same for every law, but numbers. -/
def R_law : String := "StarDaysLaw"
def lw_P (b : Addr) (xs : List Int32) (args : Array Value) (s : State) : Prop := args = #[.ref b] ∧ s.IntsAt b xs ∧ xs.length ≤ 3072 ∧ (Jvm.Cond.and given_1 narrow_1).before args s = true
def lw_Q (_ : Array Value) (s : State) (o : Outcome) (t : State) : Prop := o = .returned (some (.int 1)) ∧ Framed s o t [] 600000 7302250
def lw_Z (below : List Frame) (a : Array Value) (s : State) : State → Prop := fun t => ∃ o, t.status = .running ∧ Ended t below o ∧ lw_Q a s o t
/-- the law's own end, with 1 on the stack, nothing written that was there before, its room as the claim has it -/
theorem lw_ret {p : Program} {l : Launch} {e : Env} {s : State} {m : MethodId} {below : List Frame} {meth : Method} {c : Code} {b : Nat} (hx : p.tables.exec = Jvm.exec) (hb : c.code = code) (hr : meth.sig.returnType = ret) (hlocks : meth.locks = false) {pc : Nat} {H : Heap} {ls : Array Slot} (hdg : decode code pc = .ok (.ireturn, 1)) : W p l e room_1 s m #[Value.ref b] below meth c H [] 600000 7302250 (lw_Z below #[Value.ref b] s) (F0 m pc ls [.int 1]) := by
  intro T hT X
  obtain ⟨fs, hret, hrun, hended, hW, hframe⟩ := X.leave (v := some (.int 1)) (hlocks := hlocks) (fun h => by rw [hr] at h; cases h)
  have hmeth' : T.vm.method? m = some meth := X.method'
  refine ⟨T.setFrames fs, ?_, .returned (some (.int 1)), hrun, hended, rfl, ⟨_, rfl⟩, hW, hframe⟩
  jvm_step X.here [X.here.top, hx, hb, hdg, hmeth', hr, ret, narrow_b1]
  (try refine ⟨rfl, ?_⟩); (try refine ⟨rfl, ?_⟩)
  first | (intro acts; rw [hret _ acts rfl rfl rfl]) | rw [hret _ _ rfl rfl rfl]
  exact Steps.refl _
/-- what holds at the law's entry: the machine, the code, the tables' words (any of lw_tbl by 'hts w (by decide +kernel)'), the script of L ints xs at the cell b, what the Statement gives of the start (any of its parts by flat_of_before) -/
def lw_At (p : Program) (s : State) (m : MethodId) (meth : Method) (c : Code) (b L : Nat) (xs : Nat → Int32) : Prop :=
  p.tables.exec = Jvm.exec ∧ c.code = code ∧ meth.sig.returnType = ret ∧ c.maxLocals = 4 ∧ s.vm.findClass R_law = some m.cls ∧ (∀ w ∈ lw_tbl, w.before #[Value.ref b] s = true) ∧ va_X b L xs s s.heap ∧ b < s.heap.size ∧ meth.locks = false ∧ (Jvm.Cond.and given_1 narrow_1).before #[Value.ref b] s = true
/-! part 17: the law's contract out of a run of the abstract machine -/
def h00 : AH := (0, 0, (fun a => if a = 1000001 then (999, 0) else (0, 0)), (fun _ _ => 0), (fun _ _ => 0), (fun _ _ => none))
def scX (L : Nat) (xs : Nat → Int32) : Nat → Int := fun j => if j < L then (xs j).toInt else 0
def lwL : AL := [some (.inr (.inr (some 1000000))), none, none, none]
theorem inA : (List.range 13).all (fun i => nwD.any (fun q => q.2.2.1 == i)) = true := by decide +kernel
theorem inst_of {i : Nat} {C : String} {T : u_T} {N : Nat} (hv : vwCl[i]? = some (C, T, N)) : Jvm.Cond.instantiable C N ∈ gtW := by
  have hi : i < 13 := (List.getElem?_eq_some_iff.mp hv).1
  have h := List.all_eq_true.mp inA i (List.mem_range.mpr hi)
  obtain ⟨q, hq, hm⟩ := List.any_eq_true.mp h
  simp only [beq_iff_eq] at hm
  have hc := List.all_eq_true.mp nwA q hq
  unfold nwC at hc
  rw [hm, hv] at hc
  simp only [Bool.and_eq_true, decide_eq_true_eq] at hc
  exact wB_of hc.1.1.2
def aoC : Bool := decide (lw_tbl[aoW.1]? = some (.arrayOver (.object "StarDays$Law"))) && decide (lw_tbl[aoW.2]? = some (.arrayOver (.array .int)))
theorem aoA : aoC = true := by decide +kernel
theorem ao_ok : Jvm.Cond.arrayOver (.object "StarDays$Law") ∈ lw_tbl ∧ Jvm.Cond.arrayOver (.array .int) ∈ lw_tbl := by
  have h := aoA
  unfold aoC at h
  simp only [Bool.and_eq_true, decide_eq_true_eq] at h
  exact ⟨List.mem_of_getElem? h.1, List.mem_of_getElem? h.2⟩
theorem nsA : nestW.all (fun w => nsW.any (fun i => decide (lw_tbl[i]? = some w))) = true := by decide +kernel
theorem ns_ok : ∀ w ∈ nestW, w ∈ lw_tbl := by
  intro w hw
  obtain ⟨i, -, hi⟩ := List.any_eq_true.mp (List.all_eq_true.mp nsA w hw)
  exact List.mem_of_getElem? (of_decide_eq_true hi)
theorem arr_prim {args : Array Value} {s : State} {ty : FieldType} (h : (Jvm.Cond.arrayClass ty).before args s = true) (hr : ∀ C, ty ≠ .object C) : ∃ cA, ArrOfT s cA ty ∧ va_RA s cA ty := by
  obtain ⟨cA, kA, comp, h1, h2, h3⟩ := Cond.arrayClass_spec h
  refine ⟨cA, fun n z => ⟨fun k h => (by cases h), kA, h2, comp, h3⟩, ?_⟩
  cases ty with
  | object C => exact absurd rfl (hr C)
  | _ => exact h1
/-- the text of letters, as the Statement has it -/
theorem tx_of {s : State} {b : Addr} (hts : ∀ w ∈ lw_tbl, w.before #[Value.ref b] s = true) (hgv : (Jvm.Cond.and given_1 narrow_1).before #[Value.ref b] s = true) : ∃ sa : Nat × Nat, TxE sa s.heap.size s s.heap := by
  have hs := flat_of_before _ hgv
  have hA : ∀ a : Nat, a < s.heap.size → ¬ s.heap.size ≤ a := fun a h => by omega
  have h1 : (Cond.exactly (.string "StarDays$LawReader" 100) "java/lang/String").before #[Value.ref b] s = true := hs _ (by decide +kernel)
  have h2 : (Cond.eq (.field (.string "StarDays$LawReader" 100) "java/lang/String" "coder" "B") (.int 0)).before #[Value.ref b] s = true := hs _ (by decide +kernel)
  have h3 : (Cond.arrayOf (.field (.string "StarDays$LawReader" 100) "java/lang/String" "value" "[B") .byte).before #[Value.ref b] s = true := hs _ (by decide +kernel)
  have h4 : (Cond.eq (.length (.field (.string "StarDays$LawReader" 100) "java/lang/String" "value" "[B")) (.int (Int32.ofNat 9))).before #[Value.ref b] s = true := hs _ (by decide +kernel)
  have h5 : ∀ j : Nat, j < 9 → (Cond.eq (.elem (.field (.string "StarDays$LawReader" 100) "java/lang/String" "value" "[B") (.int (Int32.ofNat j))) (.int (txB.getD j 0))).before #[Value.ref b] s = true := by
    intro j hj
    match j, hj with
    | 0, _ => exact hs _ (by decide +kernel)
    | 1, _ => exact hs _ (by decide +kernel)
    | 2, _ => exact hs _ (by decide +kernel)
    | 3, _ => exact hs _ (by decide +kernel)
    | 4, _ => exact hs _ (by decide +kernel)
    | 5, _ => exact hs _ (by decide +kernel)
    | 6, _ => exact hs _ (by decide +kernel)
    | 7, _ => exact hs _ (by decide +kernel)
    | 8, _ => exact hs _ (by decide +kernel)
    | n + 9, h => omega
  have h6 : (Cond.eq (.static "java/lang/String" "COMPACT_STRINGS" "Z") (.int 1)).before #[Value.ref b] s = true := hs _ (by decide +kernel)
  have w1 : (Cond.stringRef "StarDays$LawReader" 100 "ndbahusty").before #[Value.ref b] s = true := hts _ (by decide +kernel)
  have w2 : (Cond.laysStatic "java/lang/String" "COMPACT_STRINGS" "Z").before #[Value.ref b] s = true := hts _ (by decide +kernel)
  have w3 : (Cond.initialized "java/lang/String").before #[Value.ref b] s = true := hts _ (by decide +kernel)
  obtain ⟨adK, adV, hS, hK⟩ := vk_Sof (args := #[Value.ref b]) (s := s) (N := 1) (tm := fun _ => .string "StarDays$LawReader" 100) (len := [9]) (byt := [txB]) (A := fun q => s.heap.size ≤ q) (fun i hi => by
      have : i = 0 := by omega
      subst this
      decide) (fun i hi => h1) (fun i hi => h2) (fun i hi => h3) (fun i hi => by
      have : i = 0 := by omega
      subst this
      exact h4) (fun i hi j hj => by
      have : i = 0 := by omega
      subst this
      exact h5 j hj) (fun i j hi hj hne => by omega) hA
  refine ⟨(adK 0, adV 0), vk_R.of w1 (hK 0 (by decide)), ⟨fun i hi => ?_, fun i j hi hj _ => by omega⟩, va_Zof w2 w3 (va_eqt h6) hA⟩
  have : i = 0 := by omega
  subst this
  exact hS.1 0 hi
set_option maxHeartbeats 2000000 in
/-- from the law's entry, a run of the abstract machine that answers 1 is the claim -/
theorem start_of {p : Program} {e : Env} {s : State} {m : MethodId} {below : List Frame} {meth : Method} {c : Code} (l : Launch) {b L : Nat} {xs : Nat → Int32} (C0 : lw_At p s m meth c b L xs) {n : Nat} {h' : AH} (he : ev codeT mX n 1000 0 0 lwL [] (ov L (scX L xs) h00) = some (some (.inl 1), h')) (hb1 : h'.1 ≤ 600000) (hb2 : h'.2.1 ≤ 7302250) : W p l e room_1 s m #[Value.ref b] below meth c s.heap [] 0 0 (lw_Z below #[Value.ref b] s) (entryFrame m ([Value.ref b] : List Value).toArray 4) := by
  obtain ⟨hx, hb, hr, hml, hown, hts, hX, hbl, hlocks, hgv⟩ := C0
  obtain ⟨sa, hTx⟩ := tx_of hts hgv
  have htg : ∀ w ∈ gtW, w.before #[Value.ref b] s = true := fun w hw => hts w (List.mem_filter.mp hw).1
  have hKn : ∀ k : Nat, ∃ (cC : ClassId) (iS : Nat → Nat), ∀ q : vw_C, vwCl[k]? = some q → u_Kn s q.1 q.2.1 q.2.2 cC iS := by
    intro k
    cases hv : vwCl[k]? with
    | none => exact ⟨0, fun _ => 0, fun q h => by cases h⟩
    | some q =>
      obtain ⟨C, T, N⟩ := q
      obtain ⟨cC, iS, h⟩ := u_known (C := C) (T := T) (N := N) (n := N) htg (cl_ok hv).1 (htg _ (inst_of hv))
      exact ⟨cC, iS, fun q hq => by cases hq; exact h⟩
  obtain ⟨a1, a2, a3, a4, -, -⟩ := ac_ok
  obtain ⟨c0, k0, r0⟩ := arr_prim (htg _ a1) (fun C h => by cases h)
  obtain ⟨c1, k1, r1⟩ := arr_prim (htg _ a2) (fun C h => by cases h)
  obtain ⟨c2, k2, r2⟩ := arr_prim (htg _ a3) (fun C h => by cases h)
  obtain ⟨c3, k3, r3⟩ := arr_prim (htg _ a4) (fun C h => by cases h)
  have ho1 := hts _ ao_ok.1
  have ho2 := hts _ ao_ok.2
  obtain ⟨comp4, c4, k4, e41, e42, e43, e44, e45⟩ := Jvm.Stand.arrayOver_specB ho2
  obtain ⟨comp5, c5, k5, e51, e52, e53, e54, e55⟩ := Cond.arrayOver_spec ho1
  have hK : va_K (fun k => (hKn k).choose, fun k => (hKn k).choose_spec.choose) vwCl (tysE (fun i => [c0, c1, c2, c3, c4, c5].getD i 0)) s := by
    refine ⟨fun k q hq => (hKn k).choose_spec.choose_spec q hq, fun k q hq => ?_⟩
    match k, hq with
    | 0, hq => cases hq; exact ⟨k0, r0⟩
    | 1, hq => cases hq; exact ⟨k1, r1⟩
    | 2, hq => cases hq; exact ⟨k2, r2⟩
    | 3, hq => cases hq; exact ⟨k3, r3⟩
    | 4, hq => cases hq; exact ⟨fun n z => ⟨fun k h => (by cases h), k4, e43, comp4, e44⟩, e45⟩
    | 5, hq => cases hq; exact ⟨fun n z => ⟨fun k h => (by cases h), k5, e53, comp5, e54⟩, k5, comp5, e53, e54, e51, e55⟩
    | k + 6, hq => simp [tysE] at hq
  have CX : CTX p room_1 s m #[Value.ref b] meth c (fun i => [c0, c1, c2, c3, c4, c5].getD i 0) (fun k => (hKn k).choose, fun k => (hKn k).choose_spec.choose) b L sa s.heap.size xs (fun q => s.heap.size ≤ q) (mB 0) (mX 0) (mO 0) (decide ((mY 0).name = "<init>")) :=
    ⟨hx, hb, hml, hown, htg, hK, fun w hw => va_Nw.of (List.all_eq_true.mp nestOn w hw) (hts w (ns_ok w hw)), ⟨ho1, ho2, hTx⟩, fun _ h => h, fun q9 => by exact absurd (of_decide_eq_true q9) (by decide), hX, hbl, Nat.le_refl _, fun _ h => h⟩
  have hR : RepE (fun i => [c0, c1, c2, c3, c4, c5].getD i 0) (fun k => (hKn k).choose, fun k => (hKn k).choose_spec.choose) b L sa s.heap.size xs (fun _ => 0) 0 (fun q => s.heap.size ≤ q) (fun a => if a = 1000000 then b else if a = 1000001 then sa.1 else if a = 1000002 then sa.2 else 0) (ov L (scX L xs) h00) s.heap := by
    refine ⟨fun k q h => by simp [wsE, ov, h00] at h, ⟨fun i j p q h => by simp [wsE, ov, h00] at h, fun k q h => by simp [wsE, ov, h00] at h⟩, ⟨fun a j => ?_, fun a j => (show rg64 0 from ⟨by decide, by decide⟩), fun a j r e9 => by cases e9⟩, rfl, rfl, fun j hj => ?_, ⟨rfl, rfl⟩, rfl, Nat.zero_le _, fun a ha => by cases ha⟩
    · show rg32 ((if a = 1000000 then scX L xs else fun _ => 0 : Nat → Int) j)
      split
      · unfold scX
        split
        · exact r32 _
        · exact rg0
      · exact rg0
    · show scX L xs j = _
      unfold scX
      rw [if_pos hj]
  have RT : RETP p l e room_1 s m #[Value.ref b] below meth c (lw_Z below #[Value.ref b] s) (fun i => [c0, c1, c2, c3, c4, c5].getD i 0) (fun k => (hKn k).choose, fun k => (hKn k).choose_spec.choose) b L sa s.heap.size xs (fun q => s.heap.size ≤ q) (fun _ => 0) 0 0 0 (some (.inl 1)) h' := by
    intro k i z ns ls st hI h0 h1 hret ad' H locs cls cells slots hR' hS' hl' hst' hc' hs'
    unfold am_ret at hret
    split at hret
    · rename_i z9
      obtain ⟨-, hret⟩ := am_g_some hret
      cases hret
      have hI : (decide (decode (mB 0) ((pcT 0).getD k 0) = .ok (.ireturn, 1)) && (ns.getD 0 0 == 0 && decide (mR 0 = some .int) || ns.getD 0 0 == 1 && decide (mR 0 = some .boolean) || ns.getD 0 0 == 2 && decide (mR 0 = some .byte))) = true := hI
      rw [Bool.and_eq_true, decide_eq_true_eq] at hI
      refine va_forget (fun q hq => hS'.2.2 q hq) ?_
      refine W.widen (k := 600000) (n := 7302250) (by omega) (by omega) ?_
      exact lw_ret hx hb hr hlocks hI.1
    · cases hret
    · cases hret
    · cases hret
  have hl0 : lrE (fun a => if a = 1000000 then b else if a = 1000001 then sa.1 else if a = 1000002 then sa.2 else 0) 0 4 lwL ((lg_sl ([Value.ref b])) ++ List.replicate (4 - (lg_sl ([Value.ref b])).length) Slot.unset).toArray := by
    have h9 := lrE_ent (ad := fun a => if a = 1000000 then b else if a = 1000001 then sa.1 else if a = 1000002 then sa.2 else 0) (n := 0) (nL := 4) (as := [.inr (.inr (some 1000000))]) (fun v hv => by rw [List.mem_singleton.mp hv]; exact Or.inr (Or.inl rfl)) (by decide)
    exact h9
  have go := frm metAll n 1000 0 0 lwL [] (ov L (scX L xs) h00) (some (.inl 1)) h' he (by decide) p l e room_1 s m #[Value.ref b] below meth c (lw_Z below #[Value.ref b] s) _ _ b L sa s.heap.size xs _ (fun _ => 0) 0 0 CX (by decide) (by decide) (by show h'.1 ≤ 0 + 600000 ∧ h'.2.1 ≤ 0 + 7302250; omega) RT (fun a => if a = 1000000 then b else if a = 1000001 then sa.1 else if a = 1000002 then sa.2 else 0) s.heap [] _ 0 0 hR va_S.rf hl0 (fun v hv => by cases hv) rfl rfl
  rw [pcz (by decide)] at go
  rw [lg_entry_eq]
  exact go
