/-! part 8: one step, whichever instruction -/
section SND8
variable {p : Program} {l : Launch} {e : Env} {R : Room} {s : State} {m : MethodId} {args : Array Value} {below : List Frame} {meth : Method} {c : Code} {Q : State → Prop}
variable {tyC : Nat → ClassId} {D : va_G} {b L : Nat} {sa : Nat × Nat} {base : Nat} {xs : Nat → Int32} {A : Nat → Prop} {ad0 : Nat → Nat} {c0 s0 nL oi : Nat} {ct : Bool} {cc : ByteArray} {pc pc' k : Nat} {ls : AL} {st : List AV} {h : AH} {ns : List Nat} {z : Int}

theorem am_sw_zip {x : Int} {d : Nat} {q : Nat × AL × List AV × AH} : ∀ (ts : List Nat) (lo : Int), am_sw x ls st h d (am_zip lo ts) = some q → (∃ (i t : Nat), x = lo + i ∧ ts[i]? = some t ∧ q = (t, ls, st, h)) ∨ ((x < lo ∨ lo + ts.length ≤ x) ∧ q = (d, ls, st, h))
  | [], lo, eq => by
    cases eq
    exact Or.inr ⟨by simp; omega, rfl⟩
  | t :: ts, lo, eq => by
    rw [am_zip, am_sw] at eq
    obtain ⟨e1, e2⟩ := am_if_eq eq
    by_cases hx : x = lo
    · have := e1 hx
      cases this
      exact Or.inl ⟨0, t, by simp [hx], by simp, rfl⟩
    · rcases am_sw_zip ts (lo + 1) (e2 hx) with ⟨i, t', a1, a2, a3⟩ | ⟨a1, a2⟩
      · exact Or.inl ⟨i + 1, t', by rw [a1]; push_cast; omega, by simpa using a2, a3⟩
      · refine Or.inr ⟨?_, a2⟩
        rw [List.length_cons]
        push_cast
        omega
theorem swB_at {pc : Nat} {tg : Nat → Nat} : ∀ (os : List Int) (ts : List Nat), swB pc tg os ts = true → os.length = ts.length ∧ ∀ (i t : Nat), ts[i]? = some t → ∃ o, os[i]? = some o ∧ (pc : Int) + o = (tg t : Int)
  | [], [], _ => ⟨rfl, fun i t h => by simp at h⟩
  | o :: os, t :: ts, hs => by
    rw [swB, Bool.and_eq_true, decide_eq_true_eq] at hs
    obtain ⟨l1, l2⟩ := swB_at os ts hs.2
    refine ⟨by simp [l1], fun i t' hi => ?_⟩
    cases i with
    | zero =>
      simp only [List.getElem?_cons_zero, Option.some.injEq] at hi
      subst hi
      exact ⟨o, by simp, hs.1⟩
    | succ i => simpa using l2 i t' (by simpa using hi)
  | [], _ :: _, hs => by simp [swB] at hs
  | _ :: _, [], hs => by simp [swB] at hs
theorem am_sw_zip2 {x : Int} {d pc : Nat} {tg : Nat → Nat} {dflt : Int} {q : Nat × AL × List AV × AH} (hdf : (pc : Int) + dflt = (tg d : Int)) : ∀ (ps : List (Int × Int)) (ts : List Nat), swB pc tg (ps.map (fun q => q.2)) ts = true → am_sw x ls st h d (am_zip2 ps ts) = some q → ∃ t, q = (t, ls, st, h) ∧ (pc : Int) + Op.lookupswitch.offset ps dflt x = (tg t : Int)
  | [], ts, _, eq => by
    cases ts <;> (cases eq; exact ⟨d, rfl, hdf⟩)
  | (v, o) :: ps, [], hs, eq => by simp [swB] at hs
  | (v, o) :: ps, t :: ts, hs, eq => by
    rw [List.map_cons, swB, Bool.and_eq_true, decide_eq_true_eq] at hs
    rw [am_zip2, am_sw] at eq
    obtain ⟨e1, e2⟩ := am_if_eq eq
    rw [Op.lookupswitch.offset_cons]
    by_cases hx : x = v
    · have := e1 hx
      cases this
      refine ⟨t, rfl, ?_⟩
      rw [if_pos hx.symm]
      exact hs.1
    · obtain ⟨t', a1, a2⟩ := am_sw_zip2 hdf ps ts hs.2 (e2 hx)
      refine ⟨t', a1, ?_⟩
      rw [if_neg (Ne.symm hx)]
      exact a2
theorem sn_jmp {pcs : Nat → Nat} {t : Nat} {vs : List AV} (row : ∀ (ad : Nat → Nat) (H : Heap) (locs : List Loc) (cells slots : Nat) (cls : Array Slot) (rest : List Value), (∀ v ∈ vs, inR h.1 v) → W p l e R s m args below meth c H locs cells slots Q (F0 m (pcs t) cls rest) → W p l e R s m args below meth c H locs cells slots Q (F0 m (pcs k) cls (vs.map (cvv ad) ++ rest)))
    (hk : SW p l e R s m args below meth c Q tyC D b L sa base xs A ad0 c0 s0 nL (pcs t) ls st h) : SW p l e R s m args below meth c Q tyC D b L sa base xs A ad0 c0 s0 nL (pcs k) ls (vs ++ st) h := by
  intro ad H locs cls cells slots hR hS hl hst hc hs
  rw [List.map_append]
  exact row ad _ _ _ _ _ _ (fun v hv => hst v (List.mem_append_left _ hv)) (hk ad H locs cls cells slots hR hS hl (fun v hv => hst v (List.mem_append_right _ hv)) hc hs)
/-- values from the stack to the stack -/
theorem sn_stk {pcs : Nat → Nat} {d : Nat} {vs us : List AV} (hp : pcs (k + 1) = pcs k + d) (hu : ∀ n, (∀ v ∈ vs, inR n v) → ∀ v ∈ us, inR n v) (row : ∀ (ad : Nat → Nat) (n : Nat) (H : Heap) (locs : List Loc) (cells slots : Nat) (cls : Array Slot) (rest : List Value), (∀ v ∈ vs, inR n v) → W p l e R s m args below meth c H locs cells slots Q (F0 m (pcs k + d) cls (us.map (cvv ad) ++ rest)) → W p l e R s m args below meth c H locs cells slots Q (F0 m (pcs k) cls (vs.map (cvv ad) ++ rest)))
    (hk : SW p l e R s m args below meth c Q tyC D b L sa base xs A ad0 c0 s0 nL (pcs (k + 1)) ls (us ++ st) h) : SW p l e R s m args below meth c Q tyC D b L sa base xs A ad0 c0 s0 nL (pcs k) ls (vs ++ st) h := by
  intro ad H locs cls cells slots hR hS hl hst hc hs
  have hv : ∀ v ∈ vs, inR h.1 v := fun v hv => hst v (List.mem_append_left _ hv)
  have go := hk ad H locs cls cells slots hR hS hl (fun v hv9 => (List.mem_append.mp hv9).elim (fun z => hu _ hv v z) (fun z => hst v (List.mem_append_right _ z))) hc hs
  rw [List.map_append] at go ⊢
  rw [hp] at go
  exact row ad h.1 _ _ _ _ _ _ hv go
theorem sn_inc {pcs : Nat → Nat} {j : Nat} {n x : Int} (hx9 : p.tables.exec = Jvm.exec) (hb : c.code = cc) (hj : ls[j]? = some (some (.inl x))) (hd : decode cc (pcs k) = .ok (.iinc j n, 3)) (hp : pcs (k + 1) = pcs k + 3)
    (hk : SW p l e R s m args below meth c Q tyC D b L sa base xs A ad0 c0 s0 nL (pcs (k + 1)) (am_st1 ls j (.inl (w32 (x + n)))) st h) : SW p l e R s m args below meth c Q tyC D b L sa base xs A ad0 c0 s0 nL (pcs k) ls st h := by
  intro ad H locs cls cells slots hR hS hl hst hc hs
  obtain ⟨k9, hk9⟩ := List.getElem?_of_mem ((lvE_mem (ad := ad) ls 0 (0 + j, cvv ad (.inl x))).mpr ⟨j, _, hj, rfl⟩)
  rw [Nat.zero_add] at hk9
  refine lv_iinc (v := Int32.ofInt (w32 (x + n))) hx9 hb hd hl.2.1 (k := k9) (x := Int32.ofInt x) hk9 (by rw [w32_of, Int32.ofInt_add]) (by rw [← hl.1]; exact (List.getElem?_eq_some_iff.mp hj).1) rfl (fun cls' h' => ?_)
  have go := hk ad H locs cls' cells slots hR hS (lrE_st1 (v := .inl (w32 (x + n))) hl (w32_rg _) h') hst hc hs
  rw [hp] at go
  exact go
theorem dv32 {a b : Int} (ha : rg32 a) (hb : rg32 b) : Int32.ofInt a / Int32.ofInt b = Int32.ofInt (Int.tdiv a b) := by
  apply Int32.toInt_inj.mp
  rw [Int32.toInt_div, t32 ha, t32 hb, Int32.toInt_ofInt]
theorem dv64 {a b : Int} (ha : rg64 a) (hb : rg64 b) : Int64.ofInt a / Int64.ofInt b = Int64.ofInt (Int.tdiv a b) := by
  apply Int64.toInt_inj.mp
  rw [Int64.toInt_div, t64 ha, t64 hb, Int64.toInt_ofInt]
theorem i2l_of {a : Int} (ha : rg32 a) : (Int32.ofInt a).toInt64 = Int64.ofInt a := by
  apply Int64.toInt_inj.mp
  rw [Int32.toInt_toInt64, t32 ha, t64]
  unfold rg32 at ha; unfold rg64; omega
theorem l2i_of {a : Int} (ha : rg64 a) : (Int64.ofInt a).toInt32 = Int32.ofInt (w32 a) := by
  rw [w32_of]
  apply Int32.toInt_inj.mp
  rw [Int64.toInt_toInt32, t64 ha, Int32.toInt_ofInt]
theorem cmp_of {a b : Int} (ha : rg64 a) (hb : rg64 b) : lg_cmp (Int64.ofInt a) (Int64.ofInt b) = Int32.ofInt (if b < a then 1 else if a < b then -1 else 0) := by
  unfold lg_cmp
  have e1 : Int64.ofInt a > Int64.ofInt b ↔ b < a := lt64 hb ha
  have e2 : Int64.ofInt a = Int64.ofInt b ↔ a = b := by rw [← Int64.toInt_inj, t64 ha, t64 hb]
  by_cases h1 : b < a
  · rw [if_pos (e1.mpr h1), if_pos h1]; rfl
  · rw [if_neg (fun q => h1 (e1.mp q)), if_neg h1]
    by_cases h2 : a < b
    · rw [if_neg (fun q => by have := e2.mp q; omega), if_pos h2]; rfl
    · rw [if_pos (e2.mpr (by omega)), if_neg h2]; rfl
theorem co_ok {oi ix kd : Nat} {z : Int} (h : coB oi ix kd z = true) : (kd = 0 → Jvm.Cond.constant (ownN oi) ix (Int32.ofInt z) ∈ gtW) ∧ (kd ≠ 0 → Jvm.Cond.constantLong (ownN oi) ix (Int64.ofInt z) ∈ gtW) := by
  unfold coB at h
  obtain ⟨q, hq, hm⟩ := List.any_eq_true.mp h
  have hc := List.all_eq_true.mp coA q hq
  obtain ⟨oi', ix', kd', z', w⟩ := q
  simp only [Bool.and_eq_true, beq_iff_eq, decide_eq_true_eq] at hm
  obtain ⟨⟨⟨rfl, rfl⟩, rfl⟩, rfl⟩ := hm
  unfold coC at hc
  dsimp only at hc
  refine ⟨fun z => ?_, fun z => ?_⟩
  · rw [if_pos z] at hc
    exact wB_of hc
  · rw [if_neg z] at hc
    exact wB_of hc
theorem rg_of {z : Int} (h : rgB z = true) : rg32 z := by
  unfold rgB at h
  simp only [Bool.and_eq_true, decide_eq_true_eq] at h
  exact h
theorem rgL_of {z : Int} (h : rgLB z = true) : rg64 z := by
  unfold rgLB at h
  simp only [Bool.and_eq_true, decide_eq_true_eq] at h
  exact h
theorem am_stI_of {j : Nat} {q : Nat × AL × List AV × AH} (eq : am_stI j k ls st h = some q) : ∃ x st', st = .inl x :: st' ∧ j < ls.length ∧ q = (k + 1, am_st1 ls j (.inl x), st', h) := by
  unfold am_stI at eq
  split at eq
  · obtain ⟨h9, eq⟩ := am_g_some eq
    cases eq
    exact ⟨_, _, rfl, h9, rfl⟩
  · cases eq
theorem am_stL_of {j : Nat} {q : Nat × AL × List AV × AH} (eq : am_stL j k ls st h = some q) : ∃ x st', st = .inr (.inl x) :: st' ∧ j + 1 < ls.length ∧ q = (k + 1, am_st2 ls j (.inr (.inl x)), st', h) := by
  unfold am_stL at eq
  split at eq
  · obtain ⟨h9, eq⟩ := am_g_some eq
    cases eq
    exact ⟨_, _, rfl, h9, rfl⟩
  · cases eq
theorem am_stA_of {j : Nat} {q : Nat × AL × List AV × AH} (eq : am_stA j k ls st h = some q) : ∃ x st', st = .inr (.inr (some x)) :: st' ∧ j < ls.length ∧ q = (k + 1, am_st1 ls j (.inr (.inr (some x))), st', h) := by
  unfold am_stA at eq
  split at eq
  · obtain ⟨h9, eq⟩ := am_g_some eq
    cases eq
    exact ⟨_, _, rfl, h9, rfl⟩
  · cases eq
set_option maxHeartbeats 4000000 in
theorem c16_rg (a : Int) : rg32 (a % 65536) := by unfold rg32; omega
theorem c16_of {a : Int} (ha : rg32 a) : ((Int32.ofInt a).toUInt32 % 65536).toInt32 = Int32.ofInt (a % 65536) := by
  apply Int32.toInt_inj.mp
  rw [t32 (c16_rg a)]
  unfold rg32 at ha
  have e1 : (Int32.ofInt a).toUInt32.toNat = (a % 4294967296).toNat := by
    show (BitVec.ofInt 32 a).toNat = _
    rw [BitVec.toNat_ofInt]
    rfl
  have e2 : ((Int32.ofInt a).toUInt32 % 65536).toNat = (a % 4294967296).toNat % 65536 := by
    rw [UInt32.toNat_mod, e1]
    rfl
  generalize (Int32.ofInt a).toUInt32 % 65536 = y at e2
  have e3 : y.toInt32.toInt = (y.toNat : Int) := by
    show y.toBitVec.toInt = _
    rw [BitVec.toInt_eq_toNat_of_lt]
    · rfl
    · show 2 * y.toNat < 2 ^ 32
      omega
  rw [e3, e2]
  omega
theorem sn_ldS {pcs : Nat → Nat} (X : CTX p R s m args meth c tyC D b L sa base xs A cc nL oi ct) (hd : decode cc (pcs k) = .ok (.ldc 100, 2)) (hp : pcs (k + 1) = pcs k + 2) (ho : ownN oi = "StarDays$LawReader") (hk : SW p l e R s m args below meth c Q tyC D b L sa base xs A ad0 c0 s0 nL (pcs (k + 1)) ls (.inr (.inr (some 1000001)) :: st) h) : SW p l e R s m args below meth c Q tyC D b L sa base xs A ad0 c0 s0 nL (pcs k) ls st h := by
  obtain ⟨hx, hb, hml, hown, hts, hK, -, ⟨-, -, hT, -⟩, -⟩ := X
  intro ad H locs cls cells slots hR hS hl hst hc hs
  obtain ⟨-, -, -, -, -, -, g4, -⟩ := id hR
  refine va_ldcS hx hb (own := "StarDays$LawReader") (tx := "ndbahusty") (q := sa.1) (by rw [← ho]; exact hown) hT hd ?_
  have go := hk ad H locs cls cells slots hR hS hl (fun v hv => (List.mem_cons.mp hv).elim (fun e => by rw [e]; exact Or.inr (Or.inr (Or.inl rfl))) (hst v)) hc hs
  have e5 : cvv ad (.inr (.inr (some 1000001))) = .ref sa.1 := by show Value.ref (ad 1000001) = _; rw [g4.1]
  rw [List.map_cons, hp, e5] at go
  exact go
theorem sn_gets {pcs : Nat → Nat} (X : CTX p R s m args meth c tyC D b L sa base xs A cc nL oi ct) (hd : decode cc (pcs k) = .ok (.getstatic 38, 3)) (hp : pcs (k + 1) = pcs k + 3) (ho : ownN oi = "java/lang/String") (hk : SW p l e R s m args below meth c Q tyC D b L sa base xs A ad0 c0 s0 nL (pcs (k + 1)) ls (.inl 1 :: st) h) : SW p l e R s m args below meth c Q tyC D b L sa base xs A ad0 c0 s0 nL (pcs k) ls st h := by
  obtain ⟨hx, hb, hml, hown, hts, hK, -, ⟨-, -, -, -, hZ⟩, -, -, -, -, -, hbA⟩ := X
  intro ad H locs cls cells slots hR hS hl hst hc hs
  refine va_gets hx hb (va_Z.narrow hZ hbA) hS (own := "java/lang/String") (by rw [← ho]; exact hown) (hts _ cs_ok.1) (fun _ h => h) hd ?_
  have go := hk ad H locs cls cells slots hR hS hl (fun v hv => (List.mem_cons.mp hv).elim (fun e => by rw [e]; exact ⟨by decide, by decide⟩) (hst v)) hc hs
  rw [List.map_cons, hp] at go
  exact go
theorem sn_getS {pcs : Nat → Nat} {ix f : Nat} (X : CTX p R s m args meth c tyC D b L sa base xs A cc nL oi ct) (hd : decode cc (pcs k) = .ok (.getfield ix, 3)) (hp : pcs (k + 1) = pcs k + 3) (ho : ownN oi = "java/lang/String") (hf : f = 0 ∧ ix = 9 ∨ f = 1 ∧ ix = 15)
    {q : Nat × AL × List AV × AH} (eq : am_getS f k ls st h = some q) (hk : SW p l e R s m args below meth c Q tyC D b L sa base xs A ad0 c0 s0 nL (pcs q.1) q.2.1 q.2.2.1 q.2.2.2) : SW p l e R s m args below meth c Q tyC D b L sa base xs A ad0 c0 s0 nL (pcs k) ls st h := by
  obtain ⟨hx, hb, hml, hown, hts, hK, -, ⟨-, -, -, hV, -⟩, -, -, -, -, -, hbA⟩ := X
  have hV := (vk_S.narrow hV hbA).1 0 (by decide)
  unfold am_getS at eq
  split at eq
  · rename_i a st
    obtain ⟨ha, eq2⟩ := am_g_some eq
    clear eq
    subst ha
    have hk2 : SW p l e R s m args below meth c Q tyC D b L sa base xs A ad0 c0 s0 nL (pcs (k + 1)) ls (am_sv f :: st) h := by
      cases eq2
      exact hk
    intro ad H locs cls cells slots hR hS hl hst hc hs
    obtain ⟨-, -, -, -, -, -, g4, -⟩ := id hR
    have e5 : cvv ad (.inr (.inr (some 1000001))) = .ref sa.1 := by show Value.ref (ad 1000001) = _; rw [g4.1]
    rw [List.map_cons, e5]
    rcases hf with ⟨rfl, rfl⟩ | ⟨rfl, rfl⟩
    · refine vk_getf hx hb hV.2.2.1 hS (own := "java/lang/String") (by rw [← ho]; exact hown) (hts _ cs_ok.2.2) (fun _ h => h) hd ?_
      have hk3 : SW p l e R s m args below meth c Q tyC D b L sa base xs A ad0 c0 s0 nL (pcs (k + 1)) ls (.inr (.inr (some 1000002)) :: st) h := hk2
      have go := hk3 ad H locs cls cells slots hR hS hl (fun v hv => (List.mem_cons.mp hv).elim (fun e => by rw [e]; exact Or.inr (Or.inr (Or.inr rfl))) (fun hv => hst v (List.mem_cons_of_mem _ hv))) hc hs
      have e6 : cvv ad (.inr (.inr (some 1000002))) = .ref sa.2 := by show Value.ref (ad 1000002) = _; rw [g4.2]
      rw [List.map_cons, hp, e6] at go
      exact go
    · refine vk_getf hx hb hV.2.1 hS (own := "java/lang/String") (by rw [← ho]; exact hown) (hts _ cs_ok.2.1) (fun _ h => h) hd ?_
      have hk3 : SW p l e R s m args below meth c Q tyC D b L sa base xs A ad0 c0 s0 nL (pcs (k + 1)) ls (.inl 0 :: st) h := hk2
      have go := hk3 ad H locs cls cells slots hR hS hl (fun v hv => (List.mem_cons.mp hv).elim (fun e => by rw [e]; exact rg0) (fun hv => hst v (List.mem_cons_of_mem _ hv))) hc hs
      rw [List.map_cons, hp] at go
      exact go
  · cases eq
theorem tx_all : ∀ j, j < 9 → txB.getD j 0 = Int32.ofInt (txI j) ∧ (-2147483648 ≤ txI j ∧ txI j < 2147483648) := by decide +kernel
theorem sn_aldS {pcs : Nat → Nat} (X : CTX p R s m args meth c tyC D b L sa base xs A cc nL oi ct) (hd : decode cc (pcs k) = .ok (.baload, 1)) (hp : pcs (k + 1) = pcs k + 1)
    {q : Nat × AL × List AV × AH} (eq : am_aldS k ls st h = some q) (hk : SW p l e R s m args below meth c Q tyC D b L sa base xs A ad0 c0 s0 nL (pcs q.1) q.2.1 q.2.2.1 q.2.2.2) : SW p l e R s m args below meth c Q tyC D b L sa base xs A ad0 c0 s0 nL (pcs k) ls st h := by
  obtain ⟨hx, hb, hml, hown, hts, hK, -, ⟨-, -, -, hV, -⟩, -, -, -, -, -, hbA⟩ := X
  have hV := (vk_S.narrow hV hbA).1 0 (by decide)
  unfold am_aldS at eq
  split at eq
  · rename_i j a st
    obtain ⟨⟨ha, g1, g2⟩, eq2⟩ := am_g_some eq
    clear eq
    subst ha
    cases eq2
    intro ad H locs cls cells slots hR hS hl hst hc hs
    obtain ⟨-, -, -, -, -, -, g4, -⟩ := id hR
    have hj : rg32 j := hst (.inl j) List.mem_cons_self
    obtain ⟨i1, i2⟩ := ix32 (n := 9) hj g1 (by omega)
    obtain ⟨t1, t2⟩ := tx_all j.toNat (by omega)
    have e5 : cvv ad (.inr (.inr (some 1000002))) = .ref sa.2 := by show Value.ref (ad 1000002) = _; rw [g4.2]
    rw [List.map_cons, List.map_cons, e5]
    refine va_tb hx hb hV.2.2.2 hS (i := Int32.ofInt j) i1 (v := .int (Int32.ofInt (txI j.toNat))) (by rw [i2]; exact congrArg Value.int t1) hd ?_
    have go := hk ad H locs cls cells slots hR hS hl (fun v hv => (List.mem_cons.mp hv).elim (fun e => by rw [e]; exact t2) (fun hv => hst v (List.mem_cons_of_mem _ (List.mem_cons_of_mem _ hv)))) hc hs
    rw [List.map_cons, hp] at go
    exact go
  · cases eq
theorem sn_lenS {pcs : Nat → Nat} (X : CTX p R s m args meth c tyC D b L sa base xs A cc nL oi ct) (hd : decode cc (pcs k) = .ok (.arraylength, 1)) (hp : pcs (k + 1) = pcs k + 1)
    {q : Nat × AL × List AV × AH} (eq : am_lenS k ls st h = some q) (hk : SW p l e R s m args below meth c Q tyC D b L sa base xs A ad0 c0 s0 nL (pcs q.1) q.2.1 q.2.2.1 q.2.2.2) : SW p l e R s m args below meth c Q tyC D b L sa base xs A ad0 c0 s0 nL (pcs k) ls st h := by
  obtain ⟨hx, hb, hml, hown, hts, hK, -, ⟨-, -, -, hV, -⟩, -, -, -, -, -, hbA⟩ := X
  have hV := (vk_S.narrow hV hbA).1 0 (by decide)
  unfold am_lenS at eq
  split at eq
  · rename_i a st
    obtain ⟨ha, eq2⟩ := am_g_some eq
    clear eq
    subst ha
    cases eq2
    intro ad H locs cls cells slots hR hS hl hst hc hs
    obtain ⟨-, -, -, -, -, -, g4, -⟩ := id hR
    have e5 : cvv ad (.inr (.inr (some 1000002))) = .ref sa.2 := by show Value.ref (ad 1000002) = _; rw [g4.2]
    rw [List.map_cons, e5]
    refine va_tlen hx hb hV.2.2.2 hS (v := Int32.ofInt 9) rfl hd ?_
    have go := hk ad H locs cls cells slots hR hS hl (fun v hv => (List.mem_cons.mp hv).elim (fun e => by rw [e]; exact ⟨by decide, by decide⟩) (fun hv => hst v (List.mem_cons_of_mem _ hv))) hc hs
    rw [List.map_cons, hp] at go
    exact go
  · cases eq
theorem stp_snd {pcs : Nat → Nat} {ret : Option FieldType} {i : Instr} (X : CTX p R s m args meth c tyC D b L sa base xs A cc nL oi ct) (hI : insB oi ct ret cc (pcs k) (pcs (k + 1)) pcs i z ns = true) (hk0 : am_kind i ns = 0) (hRf : 1 ≤ R.frames) (hRl : 20 ≤ R.locals)
    {q : Nat × AL × List AV × AH} (hroom : q.2.2.2.1 ≤ c0 + R.cells ∧ q.2.2.2.2.1 ≤ s0 + R.slots) (eq : stp i z ns k ls st h = some q) (hk : SW p l e R s m args below meth c Q tyC D b L sa base xs A ad0 c0 s0 nL (pcs q.1) q.2.1 q.2.2.1 q.2.2.2) : SW p l e R s m args below meth c Q tyC D b L sa base xs A ad0 c0 s0 nL (pcs k) ls st h := by
  obtain ⟨hx, hb, hml, hown, hts, -⟩ := id X
  cases i with
  | iadd =>
    obtain ⟨hd, hp⟩ := dk_of (show dk cc (pcs k) (pcs (k + 1)) .iadd 1 = true from hI)
    exact sn_bin (fun a b => w32 (a + b)) (fun x y => x + y) (fun a b ha hb => ⟨by rw [w32_of, Int32.ofInt_add], w32_rg _⟩) hp (fun H locs cells slots cls rest x y w => lv_iadd hx hb hd w) eq hk
  | isub =>
    obtain ⟨hd, hp⟩ := dk_of (show dk cc (pcs k) (pcs (k + 1)) .isub 1 = true from hI)
    exact sn_bin (fun a b => w32 (a - b)) (fun x y => x - y) (fun a b ha hb => ⟨by rw [w32_of, Int32.ofInt_sub], w32_rg _⟩) hp (fun H locs cells slots cls rest x y w => lv_isub hx hb hd w) eq hk
  | imul =>
    obtain ⟨hd, hp⟩ := dk_of (show dk cc (pcs k) (pcs (k + 1)) .imul 1 = true from hI)
    exact sn_bin (fun a b => w32 (a * b)) (fun x y => x * y) (fun a b ha hb => ⟨by rw [w32_of, Int32.ofInt_mul], w32_rg _⟩) hp (fun H locs cells slots cls rest x y w => lv_imul hx hb hd w) eq hk
  | iand =>
    obtain ⟨hd, hp⟩ := dk_of (show dk cc (pcs k) (pcs (k + 1)) .iand 1 = true from hI)
    exact sn_bin (fun a b => (Int32.ofInt a &&& Int32.ofInt b).toInt) (fun x y => x &&& y) (fun a b ha hb => ⟨(o32 _).symm, r32 _⟩) hp (fun H locs cells slots cls rest x y w => lv_iand hx hb hd w) eq hk
  | ior =>
    obtain ⟨hd, hp⟩ := dk_of (show dk cc (pcs k) (pcs (k + 1)) .ior 1 = true from hI)
    exact sn_bin (fun a b => (Int32.ofInt a ||| Int32.ofInt b).toInt) (fun x y => x ||| y) (fun a b ha hb => ⟨(o32 _).symm, r32 _⟩) hp (fun H locs cells slots cls rest x y w => lv_ior hx hb hd w) eq hk
  | ixor =>
    obtain ⟨hd, hp⟩ := dk_of (show dk cc (pcs k) (pcs (k + 1)) .ixor 1 = true from hI)
    exact sn_bin (fun a b => (Int32.ofInt a ^^^ Int32.ofInt b).toInt) (fun x y => x ^^^ y) (fun a b ha hb => ⟨(o32 _).symm, r32 _⟩) hp (fun H locs cells slots cls rest x y w => lv_ixor hx hb hd w) eq hk
  | ishl =>
    obtain ⟨hd, hp⟩ := dk_of (show dk cc (pcs k) (pcs (k + 1)) .ishl 1 = true from hI)
    exact sn_bin (fun a b => (Int32.ofInt a <<< (Int32.ofInt b &&& 31)).toInt) (fun x y => x <<< (y &&& 31)) (fun a b ha hb => ⟨(o32 _).symm, r32 _⟩) hp (fun H locs cells slots cls rest x y w => lv_ishl hx hb hd w) eq hk
  | ishr =>
    obtain ⟨hd, hp⟩ := dk_of (show dk cc (pcs k) (pcs (k + 1)) .ishr 1 = true from hI)
    exact sn_bin (fun a b => (Int32.ofInt a >>> (Int32.ofInt b &&& 31)).toInt) (fun x y => x >>> (y &&& 31)) (fun a b ha hb => ⟨(o32 _).symm, r32 _⟩) hp (fun H locs cells slots cls rest x y w => lv_ishr hx hb hd w) eq hk
  | iushr =>
    obtain ⟨hd, hp⟩ := dk_of (show dk cc (pcs k) (pcs (k + 1)) .iushr 1 = true from hI)
    exact sn_bin (fun a b => (((Int32.ofInt a).toUInt32 >>> ((Int32.ofInt b).toUInt32 &&& Int32.toUInt32 31)).toInt32).toInt) (fun x y => (x.toUInt32 >>> (y.toUInt32 &&& Int32.toUInt32 31)).toInt32) (fun a b ha hb => ⟨(o32 _).symm, r32 _⟩) hp (fun H locs cells slots cls rest x y w => lv_iushr hx hb hd rfl w) eq hk
  | idiv =>
    obtain ⟨hd, hp⟩ := dk_of (show dk cc (pcs k) (pcs (k + 1)) .idiv 1 = true from hI)
    exact sn_div (fun a b => w32 (Int.tdiv a b)) (fun x y => x / y) (fun a b ha hb h0 => ⟨by rw [w32_of, dv32 ha hb], w32_rg _⟩) hp (fun H locs cells slots cls rest x y h0 w => lv_idiv hx hb hd h0 w) eq hk
  | irem =>
    obtain ⟨hd, hp⟩ := dk_of (show dk cc (pcs k) (pcs (k + 1)) .irem 1 = true from hI)
    exact sn_div (fun a b => w32 (a - Int.tdiv a b * b)) (fun x y => x - x / y * y) (fun a b ha hb h0 => ⟨by rw [w32_of, dv32 ha hb, Int32.ofInt_sub, Int32.ofInt_mul], w32_rg _⟩) hp (fun H locs cells slots cls rest x y h0 w => lv_irem hx hb hd h0 w) eq hk
  | ladd =>
    obtain ⟨hd, hp⟩ := dk_of (show dk cc (pcs k) (pcs (k + 1)) .ladd 1 = true from hI)
    exact sn_binL (fun a b => w64 (a + b)) (fun x y => x + y) (fun a b ha hb => ⟨by rw [w64_of, Int64.ofInt_add], w64_rg _⟩) hp (fun H locs cells slots cls rest x y w => lv_ladd hx hb hd w) eq hk
  | lsub =>
    obtain ⟨hd, hp⟩ := dk_of (show dk cc (pcs k) (pcs (k + 1)) .lsub 1 = true from hI)
    exact sn_binL (fun a b => w64 (a - b)) (fun x y => x - y) (fun a b ha hb => ⟨by rw [w64_of, Int64.ofInt_sub], w64_rg _⟩) hp (fun H locs cells slots cls rest x y w => lv_lsub hx hb hd w) eq hk
  | lmul =>
    obtain ⟨hd, hp⟩ := dk_of (show dk cc (pcs k) (pcs (k + 1)) .lmul 1 = true from hI)
    exact sn_binL (fun a b => w64 (a * b)) (fun x y => x * y) (fun a b ha hb => ⟨by rw [w64_of, Int64.ofInt_mul], w64_rg _⟩) hp (fun H locs cells slots cls rest x y w => lv_lmul hx hb hd w) eq hk
  | land =>
    obtain ⟨hd, hp⟩ := dk_of (show dk cc (pcs k) (pcs (k + 1)) .land 1 = true from hI)
    exact sn_binL (fun a b => (Int64.ofInt a &&& Int64.ofInt b).toInt) (fun x y => x &&& y) (fun a b ha hb => ⟨(o64 _).symm, r64 _⟩) hp (fun H locs cells slots cls rest x y w => lv_land hx hb hd w) eq hk
  | lor =>
    obtain ⟨hd, hp⟩ := dk_of (show dk cc (pcs k) (pcs (k + 1)) .lor 1 = true from hI)
    exact sn_binL (fun a b => (Int64.ofInt a ||| Int64.ofInt b).toInt) (fun x y => x ||| y) (fun a b ha hb => ⟨(o64 _).symm, r64 _⟩) hp (fun H locs cells slots cls rest x y w => lv_lor hx hb hd w) eq hk
  | lxor =>
    obtain ⟨hd, hp⟩ := dk_of (show dk cc (pcs k) (pcs (k + 1)) .lxor 1 = true from hI)
    exact sn_binL (fun a b => (Int64.ofInt a ^^^ Int64.ofInt b).toInt) (fun x y => x ^^^ y) (fun a b ha hb => ⟨(o64 _).symm, r64 _⟩) hp (fun H locs cells slots cls rest x y w => lv_lxor hx hb hd w) eq hk
  | ldiv =>
    obtain ⟨hd, hp⟩ := dk_of (show dk cc (pcs k) (pcs (k + 1)) .ldiv 1 = true from hI)
    exact sn_divL (fun a b => w64 (Int.tdiv a b)) (fun x y => x / y) (fun a b ha hb h0 => ⟨by rw [w64_of, dv64 ha hb], w64_rg _⟩) hp (fun H locs cells slots cls rest x y h0 w => lv_ldiv hx hb hd h0 w) eq hk
  | lrem =>
    obtain ⟨hd, hp⟩ := dk_of (show dk cc (pcs k) (pcs (k + 1)) .lrem 1 = true from hI)
    exact sn_divL (fun a b => w64 (a - Int.tdiv a b * b)) (fun x y => x - x / y * y) (fun a b ha hb h0 => ⟨by rw [w64_of, dv64 ha hb, Int64.ofInt_sub, Int64.ofInt_mul], w64_rg _⟩) hp (fun H locs cells slots cls rest x y h0 w => lv_lrem hx hb hd h0 w) eq hk
  | lshl =>
    obtain ⟨hd, hp⟩ := dk_of (show dk cc (pcs k) (pcs (k + 1)) .lshl 1 = true from hI)
    exact sn_shL (fun a b => (Int64.ofInt a <<< ((Int32.ofInt b).toInt64 &&& 63)).toInt) (fun x y => x <<< (y.toInt64 &&& 63)) (fun a b ha hb => ⟨(o64 _).symm, r64 _⟩) hp (fun H locs cells slots cls rest x y w => lv_lshl hx hb hd rfl w) eq hk
  | lshr =>
    obtain ⟨hd, hp⟩ := dk_of (show dk cc (pcs k) (pcs (k + 1)) .lshr 1 = true from hI)
    exact sn_shL (fun a b => (Int64.ofInt a >>> ((Int32.ofInt b).toInt64 &&& 63)).toInt) (fun x y => x >>> (y.toInt64 &&& 63)) (fun a b ha hb => ⟨(o64 _).symm, r64 _⟩) hp (fun H locs cells slots cls rest x y w => lv_lshr hx hb hd rfl w) eq hk
  | lushr =>
    obtain ⟨hd, hp⟩ := dk_of (show dk cc (pcs k) (pcs (k + 1)) .lushr 1 = true from hI)
    exact sn_shL (fun a b => (((Int64.ofInt a).toUInt64 >>> ((Int32.ofInt b).toInt64.toUInt64 &&& Int64.toUInt64 63)).toInt64).toInt) (fun x y => (x.toUInt64 >>> (y.toInt64.toUInt64 &&& Int64.toUInt64 63)).toInt64) (fun a b ha hb => ⟨(o64 _).symm, r64 _⟩) hp (fun H locs cells slots cls rest x y w => lv_lushr hx hb hd rfl w) eq hk
  | iconst n =>
    have hI : (dk cc (pcs k) (pcs (k + 1)) (.iconst n) 1 && decide (Int32.ofInt n = Int32.ofInt z) && rgB z) = true := hI
    rw [Bool.and_eq_true, Bool.and_eq_true, decide_eq_true_eq] at hI
    obtain ⟨⟨hd, h9⟩, hz⟩ := hI
    obtain ⟨hd, hp⟩ := dk_of hd
    cases eq
    exact sn_push (d := 1) (v := .inl z) (fun n => rg_of hz) hp (fun ad H locs cells slots cls rest w => lv_iconst hx hb hd h9 w) hk
  | bipush n =>
    have hI : (dk cc (pcs k) (pcs (k + 1)) (.bipush n) 2 && decide ((Int8.ofInt n).toInt32 = Int32.ofInt z) && rgB z) = true := hI
    rw [Bool.and_eq_true, Bool.and_eq_true, decide_eq_true_eq] at hI
    obtain ⟨⟨hd, h9⟩, hz⟩ := hI
    obtain ⟨hd, hp⟩ := dk_of hd
    cases eq
    exact sn_push (d := 2) (v := .inl z) (fun n => rg_of hz) hp (fun ad H locs cells slots cls rest w => lv_bipush hx hb hd h9 w) hk
  | sipush n =>
    have hI : (dk cc (pcs k) (pcs (k + 1)) (.sipush n) 3 && decide ((Int16.ofInt n).toInt32 = Int32.ofInt z) && rgB z) = true := hI
    rw [Bool.and_eq_true, Bool.and_eq_true, decide_eq_true_eq] at hI
    obtain ⟨⟨hd, h9⟩, hz⟩ := hI
    obtain ⟨hd, hp⟩ := dk_of hd
    cases eq
    exact sn_push (d := 3) (v := .inl z) (fun n => rg_of hz) hp (fun ad H locs cells slots cls rest w => lv_sipush hx hb hd h9 w) hk
  | i2c =>
    obtain ⟨hd, hp⟩ := dk_of (show dk cc (pcs k) (pcs (k + 1)) .i2c 1 = true from hI)
    simp only [stp] at eq
    split at eq
    · rename_i a st
      cases eq
      exact sn_stk (d := 1) (vs := [.inl a]) (us := [.inl (a % 65536)]) hp (fun n hv u hu => by rw [List.mem_singleton.mp hu]; exact (c16_rg _)) (fun ad n H locs cells slots cls rest hv w => lv_i2c hx hb hd (c16_of (hv _ List.mem_cons_self)) w) hk
    · cases eq
  | getstatic ix =>
    have hI : (dk cc (pcs k) (pcs (k + 1)) (.getstatic ix) 3 && (decide (ownN oi = "java/lang/String") && decide (ix = 38))) = true := hI
    simp only [Bool.and_eq_true, decide_eq_true_eq] at hI
    obtain ⟨hd, ho, rfl⟩ := hI
    obtain ⟨hd, hp⟩ := dk_of hd
    cases eq
    exact sn_gets X hd hp ho hk
  | ldc n =>
    cases ns with
    | cons n0 ns =>
      have hI : (dk cc (pcs k) (pcs (k + 1)) (.ldc n) 2 && (decide (ownN oi = "StarDays$LawReader") && decide (n = 100))) = true := hI
      simp only [Bool.and_eq_true, decide_eq_true_eq] at hI
      obtain ⟨hd, ho, rfl⟩ := hI
      obtain ⟨hd, hp⟩ := dk_of hd
      cases eq
      exact sn_ldS X hd hp ho hk
    | nil =>
    have hI : (dk cc (pcs k) (pcs (k + 1)) (.ldc n) 2 && (coB oi n 0 z && rgB z)) = true := hI
    rw [Bool.and_eq_true, Bool.and_eq_true] at hI
    obtain ⟨hd, h9, hz⟩ := hI
    obtain ⟨hd, hp⟩ := dk_of hd
    cases eq
    exact sn_push (d := 2) (v := .inl z) (fun n => rg_of hz) hp (fun ad H locs cells slots cls rest w => lv_ldc hx hb hown (hts _ ((co_ok h9).1 rfl)) hd w) hk
  | ldc_w n =>
    have hI : (dk cc (pcs k) (pcs (k + 1)) (.ldc_w n) 3 && coB oi n 0 z && rgB z) = true := hI
    rw [Bool.and_eq_true, Bool.and_eq_true] at hI
    obtain ⟨⟨hd, h9⟩, hz⟩ := hI
    obtain ⟨hd, hp⟩ := dk_of hd
    cases eq
    exact sn_push (d := 3) (v := .inl z) (fun n => rg_of hz) hp (fun ad H locs cells slots cls rest w => lv_ldcw hx hb hown (hts _ ((co_ok h9).1 rfl)) hd w) hk
  | lconst n =>
    have hI : (dk cc (pcs k) (pcs (k + 1)) (.lconst n) 1 && decide (Int64.ofNat (n : Nat) = Int64.ofInt z) && rgLB z) = true := hI
    rw [Bool.and_eq_true, Bool.and_eq_true, decide_eq_true_eq] at hI
    obtain ⟨⟨hd, h9⟩, hz⟩ := hI
    obtain ⟨hd, hp⟩ := dk_of hd
    cases eq
    exact sn_push (d := 1) (v := .inr (.inl z)) (fun n => rgL_of hz) hp (fun ad H locs cells slots cls rest w => lv_lconst hx hb hd h9 w) hk
  | ldc2_w n =>
    have hI : (dk cc (pcs k) (pcs (k + 1)) (.ldc2_w n) 3 && coB oi n 1 z && rgLB z) = true := hI
    rw [Bool.and_eq_true, Bool.and_eq_true] at hI
    obtain ⟨⟨hd, h9⟩, hz⟩ := hI
    obtain ⟨hd, hp⟩ := dk_of hd
    cases eq
    exact sn_push (d := 3) (v := .inr (.inl z)) (fun n => rgL_of hz) hp (fun ad H locs cells slots cls rest w => lv_ldc2 hx hb hown (hts _ ((co_ok h9).2 (by decide))) hd w) hk
  | iload n =>
    have hI : (dk cc (pcs k) (pcs (k + 1)) (.iload n) 2 && (ns.getD 0 0 == (n : Nat))) = true := hI
    rw [Bool.and_eq_true, beq_iff_eq] at hI
    obtain ⟨hd, hn⟩ := hI
    obtain ⟨hd, hp⟩ := dk_of hd
    have eq : am_ldI (ns.getD 0 0) k ls st h = some q := eq
    unfold am_ldI at eq
    split at eq
    · rename_i x h9
      cases eq
      exact sn_ld (d := 2) (v := .inl x) h9 hp (fun ad H locs cells slots cls rest hl w => lv_iload hx hb hd (hn ▸ hl) w) hk
    · cases eq
  | iload_n n =>
    have hI : (dk cc (pcs k) (pcs (k + 1)) (.iload_n n) 1 && (ns.getD 0 0 == (n : Nat))) = true := hI
    rw [Bool.and_eq_true, beq_iff_eq] at hI
    obtain ⟨hd, hn⟩ := hI
    obtain ⟨hd, hp⟩ := dk_of hd
    have eq : am_ldI (ns.getD 0 0) k ls st h = some q := eq
    unfold am_ldI at eq
    split at eq
    · rename_i x h9
      cases eq
      exact sn_ld (d := 1) (v := .inl x) h9 hp (fun ad H locs cells slots cls rest hl w => lv_iload_n hx hb hd hn.symm hl w) hk
    · cases eq
  | lload n =>
    have hI : (dk cc (pcs k) (pcs (k + 1)) (.lload n) 2 && (ns.getD 0 0 == (n : Nat))) = true := hI
    rw [Bool.and_eq_true, beq_iff_eq] at hI
    obtain ⟨hd, hn⟩ := hI
    obtain ⟨hd, hp⟩ := dk_of hd
    have eq : am_ldL (ns.getD 0 0) k ls st h = some q := eq
    unfold am_ldL at eq
    split at eq
    · rename_i x h9
      cases eq
      exact sn_ld (d := 2) (v := .inr (.inl x)) h9 hp (fun ad H locs cells slots cls rest hl w => lv_lload hx hb hd (hn ▸ hl) w) hk
    · cases eq
  | lload_n n =>
    have hI : (dk cc (pcs k) (pcs (k + 1)) (.lload_n n) 1 && (ns.getD 0 0 == (n : Nat))) = true := hI
    rw [Bool.and_eq_true, beq_iff_eq] at hI
    obtain ⟨hd, hn⟩ := hI
    obtain ⟨hd, hp⟩ := dk_of hd
    have eq : am_ldL (ns.getD 0 0) k ls st h = some q := eq
    unfold am_ldL at eq
    split at eq
    · rename_i x h9
      cases eq
      exact sn_ld (d := 1) (v := .inr (.inl x)) h9 hp (fun ad H locs cells slots cls rest hl w => lv_lload_n hx hb hd hn.symm hl w) hk
    · cases eq
  | aload n =>
    have hI : (dk cc (pcs k) (pcs (k + 1)) (.aload n) 2 && (ns.getD 0 0 == (n : Nat))) = true := hI
    rw [Bool.and_eq_true, beq_iff_eq] at hI
    obtain ⟨hd, hn⟩ := hI
    obtain ⟨hd, hp⟩ := dk_of hd
    have eq : am_ldA (ns.getD 0 0) k ls st h = some q := eq
    unfold am_ldA at eq
    split at eq
    · rename_i x h9
      cases eq
      exact sn_ld (d := 2) (v := .inr (.inr (some x))) h9 hp (fun ad H locs cells slots cls rest hl w => lv_aload hx hb hd (hn ▸ hl) w) hk
    · cases eq
  | aload_n n =>
    have hI : (dk cc (pcs k) (pcs (k + 1)) (.aload_n n) 1 && (ns.getD 0 0 == (n : Nat))) = true := hI
    rw [Bool.and_eq_true, beq_iff_eq] at hI
    obtain ⟨hd, hn⟩ := hI
    obtain ⟨hd, hp⟩ := dk_of hd
    have eq : am_ldA (ns.getD 0 0) k ls st h = some q := eq
    unfold am_ldA at eq
    split at eq
    · rename_i x h9
      cases eq
      exact sn_ld (d := 1) (v := .inr (.inr (some x))) h9 hp (fun ad H locs cells slots cls rest hl w => lv_aload_n hx hb hd hn.symm hl w) hk
    · cases eq
  | istore n =>
    have hI : (dk cc (pcs k) (pcs (k + 1)) (.istore n) 2 && (ns.getD 0 0 == (n : Nat))) = true := hI
    rw [Bool.and_eq_true, beq_iff_eq] at hI
    obtain ⟨hd, hn⟩ := hI
    obtain ⟨hd, hp⟩ := dk_of hd
    have eq : am_stI (ns.getD 0 0) k ls st h = some q := eq
    obtain ⟨x, st', rfl, h9, rfl⟩ := am_stI_of eq
    exact sn_st1 (d := 2) (v := .inl x) h9 hp (fun ad H locs cells slots cls rest lv h1 h2 kk => lv_istore hx hb (by rw [hn]; exact hd) h1 h2 rfl kk) hk
  | istore_n n =>
    have hI : (dk cc (pcs k) (pcs (k + 1)) (.istore_n n) 1 && (ns.getD 0 0 == (n : Nat))) = true := hI
    rw [Bool.and_eq_true, beq_iff_eq] at hI
    obtain ⟨hd, hn⟩ := hI
    obtain ⟨hd, hp⟩ := dk_of hd
    have eq : am_stI (ns.getD 0 0) k ls st h = some q := eq
    obtain ⟨x, st', rfl, h9, rfl⟩ := am_stI_of eq
    exact sn_st1 (d := 1) (v := .inl x) h9 hp (fun ad H locs cells slots cls rest lv h1 h2 kk => lv_istore_n hx hb hd hn.symm h1 h2 rfl kk) hk
  | lstore n =>
    have hI : (dk cc (pcs k) (pcs (k + 1)) (.lstore n) 2 && (ns.getD 0 0 == (n : Nat))) = true := hI
    rw [Bool.and_eq_true, beq_iff_eq] at hI
    obtain ⟨hd, hn⟩ := hI
    obtain ⟨hd, hp⟩ := dk_of hd
    have eq : am_stL (ns.getD 0 0) k ls st h = some q := eq
    obtain ⟨x, st', rfl, h9, rfl⟩ := am_stL_of eq
    exact sn_st2 (d := 2) (v := .inr (.inl x)) h9 hp (fun ad H locs cells slots cls rest lv h1 h2 kk => lv_lstore hx hb (by rw [hn]; exact hd) h1 h2 rfl kk) hk
  | lstore_n n =>
    have hI : (dk cc (pcs k) (pcs (k + 1)) (.lstore_n n) 1 && (ns.getD 0 0 == (n : Nat))) = true := hI
    rw [Bool.and_eq_true, beq_iff_eq] at hI
    obtain ⟨hd, hn⟩ := hI
    obtain ⟨hd, hp⟩ := dk_of hd
    have eq : am_stL (ns.getD 0 0) k ls st h = some q := eq
    obtain ⟨x, st', rfl, h9, rfl⟩ := am_stL_of eq
    exact sn_st2 (d := 1) (v := .inr (.inl x)) h9 hp (fun ad H locs cells slots cls rest lv h1 h2 kk => lv_lstore_n hx hb hd hn.symm h1 h2 rfl kk) hk
  | astore n =>
    have hI : (dk cc (pcs k) (pcs (k + 1)) (.astore n) 2 && (ns.getD 0 0 == (n : Nat))) = true := hI
    rw [Bool.and_eq_true, beq_iff_eq] at hI
    obtain ⟨hd, hn⟩ := hI
    obtain ⟨hd, hp⟩ := dk_of hd
    have eq : am_stA (ns.getD 0 0) k ls st h = some q := eq
    obtain ⟨x, st', rfl, h9, rfl⟩ := am_stA_of eq
    exact sn_st1 (d := 2) (v := .inr (.inr (some x))) h9 hp (fun ad H locs cells slots cls rest lv h1 h2 kk => lv_astore hx hb (by rw [hn]; exact hd) h1 h2 rfl kk) hk
  | astore_n n =>
    have hI : (dk cc (pcs k) (pcs (k + 1)) (.astore_n n) 1 && (ns.getD 0 0 == (n : Nat))) = true := hI
    rw [Bool.and_eq_true, beq_iff_eq] at hI
    obtain ⟨hd, hn⟩ := hI
    obtain ⟨hd, hp⟩ := dk_of hd
    have eq : am_stA (ns.getD 0 0) k ls st h = some q := eq
    obtain ⟨x, st', rfl, h9, rfl⟩ := am_stA_of eq
    exact sn_st1 (d := 1) (v := .inr (.inr (some x))) h9 hp (fun ad H locs cells slots cls rest lv h1 h2 kk => lv_astore_n hx hb hd hn.symm h1 h2 rfl kk) hk
  | iinc n d =>
    have hI : (dk cc (pcs k) (pcs (k + 1)) (.iinc n d) 3 && (ns.getD 0 0 == n) && decide (d = z)) = true := hI
    rw [Bool.and_eq_true, Bool.and_eq_true, beq_iff_eq, decide_eq_true_eq] at hI
    obtain ⟨⟨hd, hn⟩, hz⟩ := hI
    obtain ⟨hd, hp⟩ := dk_of hd
    subst hn
    subst hz
    simp only [stp] at eq
    split at eq
    · rename_i x h9
      cases eq
      exact sn_inc hx hb h9 hd hp hk
    · cases eq
  | pop =>
    obtain ⟨hd, hp⟩ := dk_of (show dk cc (pcs k) (pcs (k + 1)) .pop 1 = true from hI)
    simp only [stp] at eq
    split at eq
    · rename_i v st
      obtain ⟨h9, eq⟩ := am_g_some eq
      cases eq
      exact sn_stk (d := 1) (vs := [v]) (us := []) hp (fun n hv u hu => by cases hu) (fun ad n H locs cells slots cls rest hv w => lv_pop hx hb hd (by rw [cvv_cat]; exact h9) w) hk
    · cases eq
  | pop2 =>
    obtain ⟨hd, hp⟩ := dk_of (show dk cc (pcs k) (pcs (k + 1)) .pop2 1 = true from hI)
    simp only [stp] at eq
    split at eq
    · rename_i a st
      cases eq
      exact sn_stk (d := 1) (vs := [.inr (.inl a)]) (us := []) hp (fun n hv u hu => by cases hu) (fun ad n H locs cells slots cls rest hv w => lv_pop2_2 hx hb hd rfl w) hk
    · cases eq
  | dup =>
    obtain ⟨hd, hp⟩ := dk_of (show dk cc (pcs k) (pcs (k + 1)) .dup 1 = true from hI)
    simp only [stp] at eq
    split at eq
    · rename_i v st
      obtain ⟨h9, eq⟩ := am_g_some eq
      cases eq
      exact sn_stk (d := 1) (vs := [v]) (us := [v, v]) hp (fun n hv u hu => hv u (by simpa using hu)) (fun ad n H locs cells slots cls rest hv w => lv_dup hx hb hd (by rw [cvv_cat]; exact h9) w) hk
    · cases eq
  | dup2 =>
    obtain ⟨hd, hp⟩ := dk_of (show dk cc (pcs k) (pcs (k + 1)) .dup2 1 = true from hI)
    simp only [stp] at eq
    split at eq
    · rename_i v u st
      obtain ⟨⟨h9, h8⟩, eq⟩ := am_g_some eq
      cases eq
      exact sn_stk (d := 1) (vs := [v, u]) (us := [v, u, v, u]) hp (fun n hv x hx => hv x (by simp only [List.mem_cons, List.not_mem_nil, or_false] at hx ⊢; rcases hx with q | q | q | q <;> simp [q])) (fun ad n H locs cells slots cls rest hv w => lv_dup2_11 hx hb hd (by rw [cvv_cat]; exact h9) (by rw [cvv_cat]; exact h8) w) hk
    · cases eq
  | lneg =>
    obtain ⟨hd, hp⟩ := dk_of (show dk cc (pcs k) (pcs (k + 1)) .lneg 1 = true from hI)
    simp only [stp] at eq
    split at eq
    · rename_i a st
      cases eq
      exact sn_stk (d := 1) (vs := [.inr (.inl a)]) (us := [.inr (.inl (w64 (-a)))]) hp (fun n hv u hu => by rw [List.mem_singleton.mp hu]; exact w64_rg _) (fun ad n H locs cells slots cls rest hv w => lv_lneg hx hb hd (by
        have e9 : cvv ad (.inr (.inl (w64 (-a)))) = .long (-(Int64.ofInt a)) := by show Value.long _ = _; rw [w64_of, Int64.ofInt_neg]
        simp only [List.map_cons, List.map_nil] at w
        rw [e9] at w
        exact w)) hk
    · cases eq
  | lcmp =>
    obtain ⟨hd, hp⟩ := dk_of (show dk cc (pcs k) (pcs (k + 1)) .lcmp 1 = true from hI)
    simp only [stp] at eq
    split at eq
    · rename_i b9 a st
      cases eq
      exact sn_stk (d := 1) (vs := [.inr (.inl b9), .inr (.inl a)]) (us := [.inl (if b9 < a then 1 else if a < b9 then -1 else 0)]) hp (fun n hv u hu => by rw [List.mem_singleton.mp hu]; show rg32 _; split; exact ⟨by decide, by decide⟩; split; exact ⟨by decide, by decide⟩; exact rg0) (fun ad n H locs cells slots cls rest hv w => W.lcmp hx hb hd (by
        have ha : rg64 a := hv _ (List.mem_cons_of_mem _ List.mem_cons_self)
        have hb9 : rg64 b9 := hv _ List.mem_cons_self
        rw [cmp_of ha hb9]
        exact w)) hk
    · cases eq
  | i2l =>
    obtain ⟨hd, hp⟩ := dk_of (show dk cc (pcs k) (pcs (k + 1)) .i2l 1 = true from hI)
    simp only [stp] at eq
    split at eq
    · rename_i a st
      cases eq
      exact sn_stk (d := 1) (vs := [.inl a]) (us := [.inr (.inl a)]) hp (fun n hv u hu => by rw [List.mem_singleton.mp hu]; exact (by have q9 : rg32 a := hv _ List.mem_cons_self; show rg64 a; unfold rg32 at q9; unfold rg64; omega)) (fun ad n H locs cells slots cls rest hv w => lv_i2l hx hb hd (i2l_of (hv _ List.mem_cons_self)) w) hk
    · cases eq
  | l2i =>
    obtain ⟨hd, hp⟩ := dk_of (show dk cc (pcs k) (pcs (k + 1)) .l2i 1 = true from hI)
    simp only [stp] at eq
    split at eq
    · rename_i a st
      cases eq
      exact sn_stk (d := 1) (vs := [.inr (.inl a)]) (us := [.inl (w32 a)]) hp (fun n hv u hu => by rw [List.mem_singleton.mp hu]; exact (w32_rg _)) (fun ad n H locs cells slots cls rest hv w => lv_l2i hx hb hd (l2i_of (hv _ List.mem_cons_self)) w) hk
    · cases eq
  | i2b =>
    obtain ⟨hd, hp⟩ := dk_of (show dk cc (pcs k) (pcs (k + 1)) .i2b 1 = true from hI)
    simp only [stp] at eq
    split at eq
    · rename_i a st
      cases eq
      exact sn_stk (d := 1) (vs := [.inl a]) (us := [.inl (w8 a)]) hp (fun n hv u hu => by rw [List.mem_singleton.mp hu]; exact (w8_rg _)) (fun ad n H locs cells slots cls rest hv w => lv_i2b hx hb hd ((fun q9 => (w8_of q9).symm) (hv _ List.mem_cons_self)) w) hk
    · cases eq
  | ifCond co o9 =>
    obtain ⟨hd, hp, ht⟩ := dj_of (show dj cc (pcs k) (pcs (k + 1)) (.ifCond co o9) o9 (pcs (ns.getD 0 0)) = true from hI)
    simp only [stp] at eq
    split at eq
    · rename_i a st
      refine sn_br (vs := [.inl a]) hp (fun ad H locs cells slots cls rest hv h1 h2 => ?_) eq hk
      have ha : rg32 a := hv _ List.mem_cons_self
      cases co with
      | eq => exact lv_if_eq hx hb hd ht (fun q9 => h1 (decide_eq_true ((eq32 ha rg0).mp q9))) (fun q9 => h2 (decide_eq_false (fun w9 => q9 ((eq32 ha rg0).mpr w9))))
      | ne => exact lv_if_ne hx hb hd ht (fun q9 => h1 (decide_eq_true (fun w9 => q9 ((eq32 ha rg0).mpr w9)))) (fun q9 => h2 (decide_eq_false (fun w9 => w9 ((eq32 ha rg0).mp q9))))
      | lt => exact lv_if_lt hx hb hd ht (fun q9 => h1 (decide_eq_true ((lt32 ha rg0).mp q9))) (fun q9 => h2 (decide_eq_false (fun w9 => q9 ((lt32 ha rg0).mpr w9))))
      | ge => exact lv_if_ge hx hb hd ht (fun q9 => h1 (decide_eq_true ((le32 rg0 ha).mp q9))) (fun q9 => h2 (decide_eq_false (fun w9 => q9 ((le32 rg0 ha).mpr w9))))
      | gt => exact lv_if_gt hx hb hd ht (fun q9 => h1 (decide_eq_true ((lt32 rg0 ha).mp q9))) (fun q9 => h2 (decide_eq_false (fun w9 => q9 ((lt32 rg0 ha).mpr w9))))
      | le => exact lv_if_le hx hb hd ht (fun q9 => h1 (decide_eq_true ((le32 ha rg0).mp q9))) (fun q9 => h2 (decide_eq_false (fun w9 => q9 ((le32 ha rg0).mpr w9))))
    · cases eq
  | if_icmp co o9 =>
    obtain ⟨hd, hp, ht⟩ := dj_of (show dj cc (pcs k) (pcs (k + 1)) (.if_icmp co o9) o9 (pcs (ns.getD 0 0)) = true from hI)
    simp only [stp] at eq
    split at eq
    · rename_i b9 a st
      refine sn_br (vs := [.inl b9, .inl a]) hp (fun ad H locs cells slots cls rest hv h1 h2 => ?_) eq hk
      have ha : rg32 a := hv _ (List.mem_cons_of_mem _ List.mem_cons_self)
      have hb9 : rg32 b9 := hv _ List.mem_cons_self
      cases co with
      | eq => exact lv_icmp_eq hx hb hd ht (fun q9 => h1 (decide_eq_true ((eq32 ha hb9).mp q9))) (fun q9 => h2 (decide_eq_false (fun w9 => q9 ((eq32 ha hb9).mpr w9))))
      | ne => exact lv_icmp_ne hx hb hd ht (fun q9 => h1 (decide_eq_true (fun w9 => q9 ((eq32 ha hb9).mpr w9)))) (fun q9 => h2 (decide_eq_false (fun w9 => w9 ((eq32 ha hb9).mp q9))))
      | lt => exact lv_icmp_lt hx hb hd ht (fun q9 => h1 (decide_eq_true ((lt32 ha hb9).mp q9))) (fun q9 => h2 (decide_eq_false (fun w9 => q9 ((lt32 ha hb9).mpr w9))))
      | ge => exact lv_icmp_ge hx hb hd ht (fun q9 => h1 (decide_eq_true ((le32 hb9 ha).mp q9))) (fun q9 => h2 (decide_eq_false (fun w9 => q9 ((le32 hb9 ha).mpr w9))))
      | gt => exact lv_icmp_gt hx hb hd ht (fun q9 => h1 (decide_eq_true ((lt32 hb9 ha).mp q9))) (fun q9 => h2 (decide_eq_false (fun w9 => q9 ((lt32 hb9 ha).mpr w9))))
      | le => exact lv_icmp_le hx hb hd ht (fun q9 => h1 (decide_eq_true ((le32 ha hb9).mp q9))) (fun q9 => h2 (decide_eq_false (fun w9 => q9 ((le32 ha hb9).mpr w9))))
    · cases eq
  | goto o9 =>
    obtain ⟨hd, hp, ht⟩ := dj_of (show dj cc (pcs k) (pcs (k + 1)) (.goto o9) o9 (pcs (ns.getD 0 0)) = true from hI)
    cases eq
    exact sn_jmp (vs := []) (fun ad H locs cells slots cls rest hv w => lv_goto hx hb hd ht w) hk
  | tableswitch d lo hi os =>
    have hI : ((match decode cc (pcs k) with
      | .ok (j, _) => decide (j = .tableswitch d lo hi os)
      | _ => false) && decide (hi + 1 = lo + os.size) && swB (pcs k) pcs (d :: os.toList) ns && rgB lo && rgB hi) = true := hI
    rw [Bool.and_eq_true, Bool.and_eq_true, Bool.and_eq_true, Bool.and_eq_true, decide_eq_true_eq] at hI
    obtain ⟨⟨⟨⟨hd, hsz⟩, hsw⟩, -⟩, -⟩ := hI
    cases hdc : decode cc (pcs k) with
    | error _ => rw [hdc] at hd; cases hd
    | ok j =>
      obtain ⟨j, len⟩ := j
      rw [hdc] at hd
      simp only [decide_eq_true_eq] at hd
      subst hd
      cases ns with
      | nil => simp [swB] at hsw
      | cons t0 ts =>
        rw [swB, Bool.and_eq_true, decide_eq_true_eq] at hsw
        obtain ⟨hdf, hsw⟩ := hsw
        obtain ⟨hlen, hat⟩ := swB_at _ _ hsw
        simp only [stp] at eq
        split at eq
        · rename_i x st
          rcases am_sw_zip _ _ eq with ⟨i, t, e1, e2, rfl⟩ | ⟨e1, rfl⟩
          · obtain ⟨o, ho1, ho2⟩ := hat i t (by simpa using e2)
            have hil : i < os.size := by have := (List.getElem?_eq_some_iff.mp ho1).1; simpa using this
            refine sn_jmp (vs := [.inl x]) (fun ad H locs cells slots cls rest hv w => ?_) hk
            have hx9 : rg32 x := hv _ List.mem_cons_self
            exact lv_tableIn (x := Int32.ofInt x) hx hb hdc (by rw [t32 hx9]; omega) (by rw [t32 hx9]; omega) (off := o) (by rw [t32 hx9, show (x - lo).toNat = i by omega, ← Array.getElem?_toList]; exact ho1) ho2 w
          · refine sn_jmp (vs := [.inl x]) (fun ad H locs cells slots cls rest hv w => ?_) hk
            have hx9 : rg32 x := hv _ List.mem_cons_self
            have hl2 : ts.length = os.size := by rw [← hlen]; simp
            exact lv_tableOut (x := Int32.ofInt x) hx hb hdc (by rw [t32 hx9]; simp only [List.drop_succ_cons, List.drop_zero] at e1; omega) hdf w
        · cases eq
  | lookupswitch d ps =>
    have hI : ((match decode cc (pcs k) with
      | .ok (j, _) => decide (j = .lookupswitch d ps)
      | _ => false) && swB (pcs k) pcs (d :: ps.toList.map (fun q => q.2)) ns && (ps.toList.zip (ps.toList.drop 1)).all (fun (a, next) => a.1 < next.1)) = true := hI
    rw [Bool.and_eq_true, Bool.and_eq_true] at hI
    obtain ⟨⟨hd, hsw⟩, hso⟩ := hI
    cases hdc : decode cc (pcs k) with
    | error _ => rw [hdc] at hd; cases hd
    | ok j =>
      obtain ⟨j, len⟩ := j
      rw [hdc] at hd
      simp only [decide_eq_true_eq] at hd
      subst hd
      cases ns with
      | nil => simp [swB] at hsw
      | cons t0 ts =>
        rw [swB, Bool.and_eq_true, decide_eq_true_eq] at hsw
        obtain ⟨hdf, hsw⟩ := hsw
        simp only [stp] at eq
        split at eq
        · rename_i x st
          obtain ⟨t, rfl, ht⟩ := am_sw_zip2 hdf _ _ (by simpa using hsw) eq
          refine sn_jmp (vs := [.inl x]) (fun ad H locs cells slots cls rest hv w => ?_) hk
          have hx9 : rg32 x := hv _ List.mem_cons_self
          exact lv_lookup (x := Int32.ofInt x) hx hb hdc hso (off := Op.lookupswitch.offset ps.toList d x) (by rw [t32 hx9]) ht w
        · cases eq
  | new ix =>
    have hI : (dk cc (pcs k) (pcs (k + 1)) (.new ix) 3 && nwB oi ix (ns.getD 0 0) (ns.getD 1 0)) = true := hI
    rw [Bool.and_eq_true] at hI
    obtain ⟨hd, hp⟩ := dk_of hI.1
    have eq : am_newo (ns.getD 0 0) (ns.getD 1 0) k ls st h = some q := eq
    have hr2 : h.1 + 1 ≤ c0 + R.cells ∧ h.2.1 + ns.getD 1 0 ≤ s0 + R.slots := by
      have eq2 : am_g (h.1 < 1000000) (some (k + 1, ls, .inr (.inr (some h.1)) :: st, nwH h (ns.getD 0 0) (ns.getD 1 0))) = some q := eq
      obtain ⟨-, e9⟩ := am_g_some eq2
      cases e9
      exact hroom
    exact sn_new X hd hp hI.2 hr2 eq hk
  | newarray t =>
    cases t with
    | int =>
      have hI : (dk cc (pcs k) (pcs (k + 1)) (.newarray .int) 2 && (ns.getD 0 0 == 100)) = true := hI
      rw [Bool.and_eq_true] at hI
      obtain ⟨hd, hp⟩ := dk_of hI.1
      exact sn_newarr X hd hp hI.2 hroom eq hk
    | byte =>
      have hI : (dk cc (pcs k) (pcs (k + 1)) (.newarray .byte) 2 && (ns.getD 0 0 == 101)) = true := hI
      rw [Bool.and_eq_true] at hI
      obtain ⟨hd, hp⟩ := dk_of hI.1
      exact sn_newarr X hd hp hI.2 hroom eq hk
    | boolean =>
      have hI : (dk cc (pcs k) (pcs (k + 1)) (.newarray .boolean) 2 && (ns.getD 0 0 == 102)) = true := hI
      rw [Bool.and_eq_true] at hI
      obtain ⟨hd, hp⟩ := dk_of hI.1
      exact sn_newarr X hd hp hI.2 hroom eq hk
    | long =>
      have hI : (dk cc (pcs k) (pcs (k + 1)) (.newarray .long) 2 && (ns.getD 0 0 == 103)) = true := hI
      rw [Bool.and_eq_true] at hI
      obtain ⟨hd, hp⟩ := dk_of hI.1
      exact sn_newarr X hd hp hI.2 hroom eq hk
    | _ => simp [insB] at hI
  | anewarray ix =>
    have hI : (dk cc (pcs k) (pcs (k + 1)) (.anewarray ix) 3 && arB oi ix 0 && (ns.getD 0 0 == 105)) = true := hI
    rw [Bool.and_eq_true, Bool.and_eq_true, beq_iff_eq] at hI
    obtain ⟨⟨hd, h9⟩, h8⟩ := hI
    obtain ⟨hd, hp⟩ := dk_of hd
    have eq : am_newa (ns.getD 0 0) k ls st h = some q := eq
    rw [h8] at eq
    exact sn_anew X hd hp h9 hroom eq hk
  | multianewarray ix d =>
    have hI : (dk cc (pcs k) (pcs (k + 1)) (.multianewarray ix 2) 4 && arB oi ix 1 && (ns.getD 0 0 == 104) && (ns.getD 1 0 == 100) && (d == 2)) = true := hI
    rw [Bool.and_eq_true, Bool.and_eq_true, Bool.and_eq_true, Bool.and_eq_true, beq_iff_eq, beq_iff_eq, beq_iff_eq] at hI
    obtain ⟨⟨⟨⟨hd, h9⟩, h8⟩, h7⟩, -⟩ := hI
    obtain ⟨hd, hp⟩ := dk_of hd
    have eq : am_newm (ns.getD 0 0) (ns.getD 1 0) k ls st h = some q := eq
    rw [h8, h7] at eq
    exact sn_newm X hd hp h9 hroom eq hk
  | iaload =>
    obtain ⟨hd, hp⟩ := dk_of (show dk cc (pcs k) (pcs (k + 1)) .iaload 1 = true from hI)
    exact sn_iald X hd hp eq hk
  | laload =>
    obtain ⟨hd, hp⟩ := dk_of (show dk cc (pcs k) (pcs (k + 1)) .laload 1 = true from hI)
    exact sn_lald X hd hp eq hk
  | iastore =>
    obtain ⟨hd, hp⟩ := dk_of (show dk cc (pcs k) (pcs (k + 1)) .iastore 1 = true from hI)
    exact sn_iast X hd hp eq hk
  | lastore =>
    obtain ⟨hd, hp⟩ := dk_of (show dk cc (pcs k) (pcs (k + 1)) .lastore 1 = true from hI)
    exact sn_last X hd hp eq hk
  | arraylength =>
    obtain ⟨hd, hp⟩ := dk_of (show dk cc (pcs k) (pcs (k + 1)) .arraylength 1 = true from hI)
    simp only [stp] at eq
    split at eq
    · exact sn_lenS X hd hp eq hk
    · exact sn_len X hd hp eq hk
  | baload =>
    have hI : (dk cc (pcs k) (pcs (k + 1)) .baload 1 && (if ns.getD 0 0 = 300 then true else ns.getD 0 0 == 101 || ns.getD 0 0 == 102)) = true := hI
    rw [Bool.and_eq_true] at hI
    obtain ⟨hd, hp⟩ := dk_of hI.1
    obtain ⟨-, hI⟩ := hI
    simp only [stp] at eq
    split at eq
    · exact sn_aldS X hd hp eq hk
    · rename_i h3
      rw [if_neg h3, Bool.or_eq_true, beq_iff_eq, beq_iff_eq] at hI
      exact sn_bald X hd hp hI eq hk
  | bastore =>
    have hI : (dk cc (pcs k) (pcs (k + 1)) .bastore 1 && (ns.getD 0 0 == 101 || ns.getD 0 0 == 102)) = true := hI
    rw [Bool.and_eq_true, Bool.or_eq_true, beq_iff_eq, beq_iff_eq] at hI
    obtain ⟨hd, hp⟩ := dk_of hI.1
    simp only [stp] at eq
    rcases hI.2 with q9 | q9
    · rw [q9] at eq
      exact sn_bast X hd hp eq hk
    · rw [q9] at eq
      exact sn_zast X hd hp eq hk
  | aaload =>
    have hI : (dk cc (pcs k) (pcs (k + 1)) .aaload 1 && (ns.getD 0 0 == 104 || ns.getD 0 0 == 105)) = true := hI
    rw [Bool.and_eq_true, Bool.or_eq_true, beq_iff_eq, beq_iff_eq] at hI
    obtain ⟨hd, hp⟩ := dk_of hI.1
    exact sn_aald X hd hp hI.2 eq hk
  | aastore =>
    have hI : (dk cc (pcs k) (pcs (k + 1)) .aastore 1 && (ns.getD 0 0 == 105) && (ns.getD 1 0 == 4)) = true := hI
    rw [Bool.and_eq_true, Bool.and_eq_true, beq_iff_eq, beq_iff_eq] at hI
    obtain ⟨⟨hd, h9⟩, h8⟩ := hI
    obtain ⟨hd, hp⟩ := dk_of hd
    have eq : am_astA (ns.getD 0 0) (ns.getD 1 0) k ls st h = some q := eq
    rw [h9, h8] at eq
    exact sn_aast X hd hp eq hk
  | getfield ix =>
    have hI : (dk cc (pcs k) (pcs (k + 1)) (.getfield ix) 3 && (if ns.getD 0 0 = 300 then decide (ownN oi = "java/lang/String") && (decide (ns.getD 1 0 = 0 ∧ ix = 9) || decide (ns.getD 1 0 = 1 ∧ ix = 15)) else frB oi ix (ns.getD 0 0) (ns.getD 1 0) (ns.getD 2 0))) = true := hI
    rw [Bool.and_eq_true] at hI
    obtain ⟨hd, hp⟩ := dk_of hI.1
    obtain ⟨-, hI⟩ := hI
    simp only [stp] at eq
    split at eq
    · rename_i h3
      rw [if_pos h3] at hI
      simp only [Bool.and_eq_true, Bool.or_eq_true, decide_eq_true_eq] at hI
      exact sn_getS X hd hp hI.1 hI.2 eq hk
    · rename_i h3
      rw [if_neg h3] at hI
      exact sn_get X hd hp hI eq hk
  | putfield ix =>
    have hI : (dk cc (pcs k) (pcs (k + 1)) (.putfield ix) 3 && frB oi ix (ns.getD 0 0) (ns.getD 1 0) (ns.getD 2 0) && (!(fnB (ns.getD 0 0) (ns.getD 1 0)) || (ct && (oi == ns.getD 0 0)))) = true := hI
    rw [Bool.and_eq_true, Bool.and_eq_true] at hI
    obtain ⟨⟨hd, h9⟩, h8⟩ := hI
    obtain ⟨hd, hp⟩ := dk_of hd
    exact sn_put X hd hp h9 h8 eq hk
  | invokespecial ix =>
    have hI : (dk cc (pcs k) (pcs (k + 1)) (.invokespecial ix) 3 && (if ns.length = 0 then obB oi ix else (ns.getD 2 0 == 1) && (crB oi ix 2 (ns.getD 0 0) (ns.getD 1 0) (ns.getD 3 0) || crB oi ix 3 (ns.getD 0 0) (ns.getD 1 0) (ns.getD 3 0)))) = true := hI
    have h0 : ns.length = 0 := by
      simp only [am_kind] at hk0
      split at hk0
      · assumption
      · cases hk0
    rw [Bool.and_eq_true, if_pos h0] at hI
    obtain ⟨hd, hp⟩ := dk_of hI.1
    simp only [stp] at eq
    split at eq
    · rename_i a st
      obtain ⟨h9, eq⟩ := am_g_some eq
      cases eq
      exact sn_obj X hd hp hI.2 hRf hRl h9 hk
    · cases eq
  | invokevirtual ix => simp [am_kind] at hk0
  | invokestatic ix => simp [am_kind] at hk0
  | ireturn => simp [am_kind] at hk0
  | lreturn => simp [am_kind] at hk0
  | return_ => simp [am_kind] at hk0
  | _ => exact Bool.noConfusion (show false = true from hI)
end SND8
