/-! part 3: a step of the abstract machine is steps of the real one -/
section SND
variable {p : Program} {l : Launch} {e : Env} {R : Room} {s : State} {m : MethodId} {args : Array Value} {below : List Frame} {meth : Method} {c : Code} {Q : State → Prop}
/-- what holds of the cells: the world, the script, the text -/
def RepE (tyC : Nat → ClassId) (D : va_G) (b L : Nat) (sa : Nat × Nat) (base : Nat) (xs : Nat → Int32) (ad0 : Nat → Nat) (c0 : Nat) (A : Nat → Prop) (ad : Nat → Nat) (h : AH) (H : Heap) : Prop :=
  va_P D vwCl (wsE tyC ad h) H ∧ va_D A (wsE tyC ad h) ∧ rgE h ∧ ad 1000000 = b ∧ h.2.2.1 1000000 = (100, L) ∧ (∀ j, j < L → h.2.2.2.1 1000000 j = (xs j).toInt) ∧ (ad 1000001 = sa.1 ∧ ad 1000002 = sa.2) ∧ (h.2.2.1 1000001).1 = 999 ∧ h.1 ≤ 1000000 ∧ ∀ a, a < h.1 → base ≤ ad a ∧ (a < c0 → ad a = ad0 a)
def txB : List Int32 := [110, 100, 98, 97, 104, 117, 115, 116, 121]
/-- the text of letters: its String, its bytes, old cells that stay as they are -/
def TxE (sa : Nat × Nat) (base : Nat) (U : State) (H : Heap) : Prop := vk_R "StarDays$LawReader" 100 "ndbahusty" sa.1 U ∧ vk_S 1 [9] [txB] (fun _ => sa.1) (fun _ => sa.2) (fun q => base ≤ q) U H ∧ va_Z "java/lang/String" "COMPACT_STRINGS" "Z" (.int 1) (fun q => base ≤ q) U H
theorem TxE_same {sa : Nat × Nat} {base : Nat} {u U : State} {H : Heap} (hv : u.vm = U.vm) (h : TxE sa base u H) : TxE sa base U H := ⟨vk_R.same hv.symm h.1, vk_S.moved (by rw [hv]; exact Vm.Alike.refl _) h.2.1, va_Z.moved (by rw [hv]; exact Vm.Alike.refl _) h.2.2⟩
theorem TxE_warm {sa : Nat × Nat} {base : Nat} {u U : State} {H : Heap} (hW : u.WarmedH U.vm) (h : TxE sa base u H) : TxE sa base U H := ⟨vk_R.warm hW h.1, vk_S.moved hW.alike h.2.1, va_Z.moved hW.alike h.2.2⟩
theorem TxE_kept {sa : Nat × Nat} {base : Nat} {U : State} {H H1 : Heap} (h : TxE sa base U H) (hq : ∀ a : Nat, a < H.size → ¬ base ≤ a → H1[a]? = H[a]?) : TxE sa base U H1 := ⟨h.1, vk_S.kept h.2.1 hq, va_Z.kept h.2.2 hq⟩
/-- the frame, as the abstract machine has it: from here the real machine comes to Q -/
def SW (p : Program) (l : Launch) (e : Env) (R : Room) (s : State) (m : MethodId) (args : Array Value) (below : List Frame) (meth : Method) (c : Code) (Q : State → Prop) (tyC : Nat → ClassId) (D : va_G) (b L : Nat) (sa : Nat × Nat) (base : Nat) (xs : Nat → Int32) (A : Nat → Prop) (ad0 : Nat → Nat) (c0 s0 nL : Nat) (pc : Nat) (ls : AL) (st : List AV) (h : AH) : Prop :=
  ∀ (ad : Nat → Nat) (H : Heap) (locs : List Loc) (cls : Array Slot) (cells slots : Nat), RepE tyC D b L sa base xs ad0 c0 A ad h H → va_S A s.heap H locs → lrE ad h.1 nL ls cls → (∀ v ∈ st, inR h.1 v) → cells + c0 = h.1 → slots + s0 = h.2.1 → W p l e R s m args below meth c H locs cells slots Q (F0 m pc cls (st.map (cvv ad)))
/-- what is known all along a method -/
def CTX (p : Program) (R : Room) (s : State) (m : MethodId) (args : Array Value) (meth : Method) (c : Code) (tyC : Nat → ClassId) (D : va_G) (b L : Nat) (sa : Nat × Nat) (base : Nat) (xs : Nat → Int32) (A : Nat → Prop) (cc : ByteArray) (nL oi : Nat) (ct : Bool) : Prop :=
  p.tables.exec = Jvm.exec ∧ c.code = cc ∧ c.maxLocals = nL ∧ s.vm.findClass (ownN oi) = some m.cls ∧ (∀ w ∈ gtW, w.before args s = true) ∧ va_K D vwCl (tysE tyC) s ∧ (∀ w ∈ nestW, va_Nw w s) ∧ ((Jvm.Cond.arrayOver (.object "StarDays$Law")).before args s = true ∧ (Jvm.Cond.arrayOver (.array .int)).before args s = true ∧ TxE sa base s s.heap) ∧ (∀ q : Nat, s.heap.size ≤ q → A q) ∧ (ct = true → meth.name = "<init>") ∧ va_X b L xs s s.heap ∧ b < base ∧ base ≤ s.heap.size ∧ ∀ q, A q → base ≤ q
variable {tyC : Nat → ClassId} {D : va_G} {b L : Nat} {sa : Nat × Nat} {base : Nat} {xs : Nat → Int32} {A : Nat → Prop} {ad0 : Nat → Nat} {c0 s0 nL oi : Nat} {ct : Bool} {cc : ByteArray} {pc pc' k : Nat} {ls : AL} {st : List AV} {h : AH} {ns : List Nat} {z : Int}

theorem am_g_some {α : Type} {c : Prop} [Decidable c] {x : Option α} {y : α} (h : am_g c x = some y) : c ∧ x = some y := by
  unfold am_g at h
  split at h
  · rename_i hc; exact ⟨hc, h⟩
  · cases h
/-- two numbers to one -/
theorem sn_bin {pcs : Nat → Nat} (f : Int → Int → Int) (g : Int32 → Int32 → Int32) (hg : ∀ a b, rg32 a → rg32 b → g (Int32.ofInt a) (Int32.ofInt b) = Int32.ofInt (f a b) ∧ rg32 (f a b)) (hp : pcs (k + 1) = pcs k + 1)
    (row : ∀ (H : Heap) (locs : List Loc) (cells slots : Nat) (cls : Array Slot) (rest : List Value) (x y : Int32), W p l e R s m args below meth c H locs cells slots Q (F0 m (pcs k + 1) cls (.int (g x y) :: rest)) → W p l e R s m args below meth c H locs cells slots Q (F0 m (pcs k) cls (.int y :: .int x :: rest)))
    {q : Nat × AL × List AV × AH} (eq : am_bin f k ls st h = some q) (hk : SW p l e R s m args below meth c Q tyC D b L sa base xs A ad0 c0 s0 nL (pcs q.1) q.2.1 q.2.2.1 q.2.2.2) : SW p l e R s m args below meth c Q tyC D b L sa base xs A ad0 c0 s0 nL (pcs k) ls st h := by
  unfold am_bin at eq
  split at eq
  · rename_i y x st
    cases eq
    intro ad H locs cls cells slots hR hS hl hst hc hs
    have hx := hst _ (List.mem_cons_of_mem _ List.mem_cons_self)
    have hy := hst _ List.mem_cons_self
    obtain ⟨e1, e2⟩ := hg x y hx hy
    have := hk ad H locs cls cells slots hR hS hl (fun v hv => (List.mem_cons.mp hv).elim (fun e => by rw [e]; exact e2) (fun hv => hst _ (List.mem_cons_of_mem _ (List.mem_cons_of_mem _ hv)))) hc hs
    refine row _ _ _ _ _ _ _ _ ?_
    rw [e1, ← hp]
    exact this
  · cases eq
theorem sn_div {pcs : Nat → Nat} (f : Int → Int → Int) (g : Int32 → Int32 → Int32) (hg : ∀ a b, rg32 a → rg32 b → b ≠ 0 → g (Int32.ofInt a) (Int32.ofInt b) = Int32.ofInt (f a b) ∧ rg32 (f a b)) (hp : pcs (k + 1) = pcs k + 1)
    (row : ∀ (H : Heap) (locs : List Loc) (cells slots : Nat) (cls : Array Slot) (rest : List Value) (x y : Int32), ¬ y = 0 → W p l e R s m args below meth c H locs cells slots Q (F0 m (pcs k + 1) cls (.int (g x y) :: rest)) → W p l e R s m args below meth c H locs cells slots Q (F0 m (pcs k) cls (.int y :: .int x :: rest)))
    {q : Nat × AL × List AV × AH} (eq : am_div f k ls st h = some q) (hk : SW p l e R s m args below meth c Q tyC D b L sa base xs A ad0 c0 s0 nL (pcs q.1) q.2.1 q.2.2.1 q.2.2.2) : SW p l e R s m args below meth c Q tyC D b L sa base xs A ad0 c0 s0 nL (pcs k) ls st h := by
  unfold am_div at eq
  split at eq
  · rename_i y x st
    obtain ⟨h0, eq⟩ := am_g_some eq
    cases eq
    intro ad H locs cls cells slots hR hS hl hst hc hs
    have hx := hst _ (List.mem_cons_of_mem _ List.mem_cons_self)
    have hy := hst _ List.mem_cons_self
    obtain ⟨e1, e2⟩ := hg x y hx hy h0
    have := hk ad H locs cls cells slots hR hS hl (fun v hv => (List.mem_cons.mp hv).elim (fun e => by rw [e]; exact e2) (fun hv => hst _ (List.mem_cons_of_mem _ (List.mem_cons_of_mem _ hv)))) hc hs
    refine row _ _ _ _ _ _ _ _ (fun q => h0 ((eq32 hy rg0).mp q)) ?_
    rw [e1, ← hp]
    exact this
  · cases eq
theorem sn_binL {pcs : Nat → Nat} (f : Int → Int → Int) (g : Int64 → Int64 → Int64) (hg : ∀ a b, rg64 a → rg64 b → g (Int64.ofInt a) (Int64.ofInt b) = Int64.ofInt (f a b) ∧ rg64 (f a b)) (hp : pcs (k + 1) = pcs k + 1)
    (row : ∀ (H : Heap) (locs : List Loc) (cells slots : Nat) (cls : Array Slot) (rest : List Value) (x y : Int64), W p l e R s m args below meth c H locs cells slots Q (F0 m (pcs k + 1) cls (.long (g x y) :: rest)) → W p l e R s m args below meth c H locs cells slots Q (F0 m (pcs k) cls (.long y :: .long x :: rest)))
    {q : Nat × AL × List AV × AH} (eq : am_binL f k ls st h = some q) (hk : SW p l e R s m args below meth c Q tyC D b L sa base xs A ad0 c0 s0 nL (pcs q.1) q.2.1 q.2.2.1 q.2.2.2) : SW p l e R s m args below meth c Q tyC D b L sa base xs A ad0 c0 s0 nL (pcs k) ls st h := by
  unfold am_binL at eq
  split at eq
  · rename_i y x st
    cases eq
    intro ad H locs cls cells slots hR hS hl hst hc hs
    have hx := hst _ (List.mem_cons_of_mem _ List.mem_cons_self)
    have hy := hst _ List.mem_cons_self
    obtain ⟨e1, e2⟩ := hg x y hx hy
    have := hk ad H locs cls cells slots hR hS hl (fun v hv => (List.mem_cons.mp hv).elim (fun e => by rw [e]; exact e2) (fun hv => hst _ (List.mem_cons_of_mem _ (List.mem_cons_of_mem _ hv)))) hc hs
    refine row _ _ _ _ _ _ _ _ ?_
    rw [e1, ← hp]
    exact this
  · cases eq
theorem sn_divL {pcs : Nat → Nat} (f : Int → Int → Int) (g : Int64 → Int64 → Int64) (hg : ∀ a b, rg64 a → rg64 b → b ≠ 0 → g (Int64.ofInt a) (Int64.ofInt b) = Int64.ofInt (f a b) ∧ rg64 (f a b)) (hp : pcs (k + 1) = pcs k + 1)
    (row : ∀ (H : Heap) (locs : List Loc) (cells slots : Nat) (cls : Array Slot) (rest : List Value) (x y : Int64), ¬ y = 0 → W p l e R s m args below meth c H locs cells slots Q (F0 m (pcs k + 1) cls (.long (g x y) :: rest)) → W p l e R s m args below meth c H locs cells slots Q (F0 m (pcs k) cls (.long y :: .long x :: rest)))
    {q : Nat × AL × List AV × AH} (eq : am_divL f k ls st h = some q) (hk : SW p l e R s m args below meth c Q tyC D b L sa base xs A ad0 c0 s0 nL (pcs q.1) q.2.1 q.2.2.1 q.2.2.2) : SW p l e R s m args below meth c Q tyC D b L sa base xs A ad0 c0 s0 nL (pcs k) ls st h := by
  unfold am_divL at eq
  split at eq
  · rename_i y x st
    obtain ⟨h0, eq⟩ := am_g_some eq
    cases eq
    intro ad H locs cls cells slots hR hS hl hst hc hs
    have hx := hst _ (List.mem_cons_of_mem _ List.mem_cons_self)
    have hy := hst _ List.mem_cons_self
    obtain ⟨e1, e2⟩ := hg x y hx hy h0
    have := hk ad H locs cls cells slots hR hS hl (fun v hv => (List.mem_cons.mp hv).elim (fun e => by rw [e]; exact e2) (fun hv => hst _ (List.mem_cons_of_mem _ (List.mem_cons_of_mem _ hv)))) hc hs
    refine row _ _ _ _ _ _ _ _ (fun q => h0 (by have := congrArg Int64.toInt q; rw [t64 hy] at this; exact this)) ?_
    rw [e1, ← hp]
    exact this
  · cases eq
theorem sn_shL {pcs : Nat → Nat} (f : Int → Int → Int) (g : Int64 → Int32 → Int64) (hg : ∀ a b, rg64 a → rg32 b → g (Int64.ofInt a) (Int32.ofInt b) = Int64.ofInt (f a b) ∧ rg64 (f a b)) (hp : pcs (k + 1) = pcs k + 1)
    (row : ∀ (H : Heap) (locs : List Loc) (cells slots : Nat) (cls : Array Slot) (rest : List Value) (x : Int64) (y : Int32), W p l e R s m args below meth c H locs cells slots Q (F0 m (pcs k + 1) cls (.long (g x y) :: rest)) → W p l e R s m args below meth c H locs cells slots Q (F0 m (pcs k) cls (.int y :: .long x :: rest)))
    {q : Nat × AL × List AV × AH} (eq : am_shL f k ls st h = some q) (hk : SW p l e R s m args below meth c Q tyC D b L sa base xs A ad0 c0 s0 nL (pcs q.1) q.2.1 q.2.2.1 q.2.2.2) : SW p l e R s m args below meth c Q tyC D b L sa base xs A ad0 c0 s0 nL (pcs k) ls st h := by
  unfold am_shL at eq
  split at eq
  · rename_i y x st
    cases eq
    intro ad H locs cls cells slots hR hS hl hst hc hs
    have hx := hst _ (List.mem_cons_of_mem _ List.mem_cons_self)
    have hy := hst _ List.mem_cons_self
    obtain ⟨e1, e2⟩ := hg x y hx hy
    have := hk ad H locs cls cells slots hR hS hl (fun v hv => (List.mem_cons.mp hv).elim (fun e => by rw [e]; exact e2) (fun hv => hst _ (List.mem_cons_of_mem _ (List.mem_cons_of_mem _ hv)))) hc hs
    refine row _ _ _ _ _ _ _ _ ?_
    rw [e1, ← hp]
    exact this
  · cases eq
theorem sn_push {pcs : Nat → Nat} {d : Nat} {v : AV} (hv : ∀ n, inR n v) (hp : pcs (k + 1) = pcs k + d)
    (row : ∀ (ad : Nat → Nat) (H : Heap) (locs : List Loc) (cells slots : Nat) (cls : Array Slot) (rest : List Value), W p l e R s m args below meth c H locs cells slots Q (F0 m (pcs k + d) cls (cvv ad v :: rest)) → W p l e R s m args below meth c H locs cells slots Q (F0 m (pcs k) cls rest))
    (hk : SW p l e R s m args below meth c Q tyC D b L sa base xs A ad0 c0 s0 nL (pcs (k + 1)) ls (v :: st) h) : SW p l e R s m args below meth c Q tyC D b L sa base xs A ad0 c0 s0 nL (pcs k) ls st h := by
  intro ad H locs cls cells slots hR hS hl hst hc hs
  refine row ad _ _ _ _ _ _ ?_
  have := hk ad H locs cls cells slots hR hS hl (fun v9 hv9 => (List.mem_cons.mp hv9).elim (fun e => e ▸ hv _) (fun hv9 => hst _ hv9)) hc hs
  rw [← hp]
  exact this
theorem sn_ld {pcs : Nat → Nat} {d j : Nat} {v : AV} (hj : ls[j]? = some (some v)) (hp : pcs (k + 1) = pcs k + d)
    (row : ∀ (ad : Nat → Nat) (H : Heap) (locs : List Loc) (cells slots : Nat) (cls : Array Slot) (rest : List Value), cls[j]? = some (.val (cvv ad v)) → W p l e R s m args below meth c H locs cells slots Q (F0 m (pcs k + d) cls (cvv ad v :: rest)) → W p l e R s m args below meth c H locs cells slots Q (F0 m (pcs k) cls rest))
    (hk : SW p l e R s m args below meth c Q tyC D b L sa base xs A ad0 c0 s0 nL (pcs (k + 1)) ls (v :: st) h) : SW p l e R s m args below meth c Q tyC D b L sa base xs A ad0 c0 s0 nL (pcs k) ls st h := by
  intro ad H locs cls cells slots hR hS hl hst hc hs
  refine row ad _ _ _ _ _ _ (lrE_get hl hj) ?_
  have := hk ad H locs cls cells slots hR hS hl (fun v9 hv9 => (List.mem_cons.mp hv9).elim (fun e => e ▸ hl.2.2 j v hj) (fun hv9 => hst _ hv9)) hc hs
  rw [← hp]
  exact this
theorem sn_st1 {pcs : Nat → Nat} {d j : Nat} {v : AV} (hj : j < ls.length) (hp : pcs (k + 1) = pcs k + d)
    (row : ∀ (ad : Nat → Nat) (H : Heap) (locs : List Loc) (cells slots : Nat) (cls : Array Slot) (rest : List Value) (lv : List (Nat × Value)), lv_has cls nL lv → j < nL → (∀ cls' : Array Slot, lv_has cls' nL ((j, cvv ad v) :: lv.filter (fun q => !(q.1 == j) && !(q.1 + 1 == j && q.2.category == 2))) → W p l e R s m args below meth c H locs cells slots Q (F0 m (pcs k + d) cls' rest)) → W p l e R s m args below meth c H locs cells slots Q (F0 m (pcs k) cls (cvv ad v :: rest)))
    (hk : SW p l e R s m args below meth c Q tyC D b L sa base xs A ad0 c0 s0 nL (pcs (k + 1)) (am_st1 ls j v) st h) : SW p l e R s m args below meth c Q tyC D b L sa base xs A ad0 c0 s0 nL (pcs k) ls (v :: st) h := by
  intro ad H locs cls cells slots hR hS hl hst hc hs
  refine row ad _ _ _ _ _ _ _ hl.2.1 (by rw [← hl.1]; exact hj) (fun cls' h' => ?_)
  have := hk ad H locs cls' cells slots hR hS (lrE_st1 hl (hst _ List.mem_cons_self) h') (fun v9 hv9 => hst _ (List.mem_cons_of_mem _ hv9)) hc hs
  rw [← hp]
  exact this
theorem sn_st2 {pcs : Nat → Nat} {d j : Nat} {v : AV} (hj : j + 1 < ls.length) (hp : pcs (k + 1) = pcs k + d)
    (row : ∀ (ad : Nat → Nat) (H : Heap) (locs : List Loc) (cells slots : Nat) (cls : Array Slot) (rest : List Value) (lv : List (Nat × Value)), lv_has cls nL lv → j + 1 < nL → (∀ cls' : Array Slot, lv_has cls' nL ((j, cvv ad v) :: lv.filter (fun q => !(q.1 == j) && (!(q.1 == j + 1) && !(q.1 + 1 == j && q.2.category == 2)))) → W p l e R s m args below meth c H locs cells slots Q (F0 m (pcs k + d) cls' rest)) → W p l e R s m args below meth c H locs cells slots Q (F0 m (pcs k) cls (cvv ad v :: rest)))
    (hk : SW p l e R s m args below meth c Q tyC D b L sa base xs A ad0 c0 s0 nL (pcs (k + 1)) (am_st2 ls j v) st h) : SW p l e R s m args below meth c Q tyC D b L sa base xs A ad0 c0 s0 nL (pcs k) ls (v :: st) h := by
  intro ad H locs cls cells slots hR hS hl hst hc hs
  refine row ad _ _ _ _ _ _ _ hl.2.1 (by rw [← hl.1]; exact hj) (fun cls' h' => ?_)
  have := hk ad H locs cls' cells slots hR hS (lrE_st2 hl (hst _ List.mem_cons_self) h') (fun v9 hv9 => hst _ (List.mem_cons_of_mem _ hv9)) hc hs
  rw [← hp]
  exact this
theorem sn_un {pcs : Nat → Nat} {d : Nat} {v v' : AV} (hv : ∀ n, inR n v → inR n v') (hp : pcs (k + 1) = pcs k + d)
    (row : ∀ (ad : Nat → Nat) (n : Nat) (H : Heap) (locs : List Loc) (cells slots : Nat) (cls : Array Slot) (rest : List Value), inR n v → W p l e R s m args below meth c H locs cells slots Q (F0 m (pcs k + d) cls (cvv ad v' :: rest)) → W p l e R s m args below meth c H locs cells slots Q (F0 m (pcs k) cls (cvv ad v :: rest)))
    (hk : SW p l e R s m args below meth c Q tyC D b L sa base xs A ad0 c0 s0 nL (pcs (k + 1)) ls (v' :: st) h) : SW p l e R s m args below meth c Q tyC D b L sa base xs A ad0 c0 s0 nL (pcs k) ls (v :: st) h := by
  intro ad H locs cls cells slots hR hS hl hst hc hs
  refine row ad h.1 _ _ _ _ _ _ (hst _ List.mem_cons_self) ?_
  have := hk ad H locs cls cells slots hR hS hl (fun v9 hv9 => (List.mem_cons.mp hv9).elim (fun e => e ▸ hv _ (hst _ List.mem_cons_self)) (fun hv9 => hst _ (List.mem_cons_of_mem _ hv9))) hc hs
  rw [← hp]
  exact this
theorem am_if_eq {c : Prop} [Decidable c] {x y : AR} {q : Nat × AL × List AV × AH} (h : am_if c x y = some q) : (c → x = some q) ∧ (¬ c → y = some q) := by
  unfold am_if at h
  split at h
  · rename_i hc; exact ⟨fun _ => h, fun n => absurd hc n⟩
  · rename_i hc; exact ⟨fun n => absurd n hc, fun _ => h⟩
/-- the two ways of a comparison, as the real machine takes them -/
theorem am_br_eq {co : ClassFile.Cond} {x y : Int} {t : Nat} {q : Nat × AL × List AV × AH} (h0 : am_br co x y t k ls st h = some q) : (am_cmp co x y = true → q = (t, ls, st, h)) ∧ (am_cmp co x y = false → q = (k + 1, ls, st, h)) := by
  cases co <;> simp only [am_br] at h0 <;> obtain ⟨h1, h2⟩ := am_if_eq h0 <;> simp only [am_cmp, decide_eq_true_eq, decide_eq_false_iff_not]
  · exact ⟨fun q9 => (Option.some.inj (h1 q9)).symm, fun q9 => (Option.some.inj (h2 q9)).symm⟩
  · exact ⟨fun q9 => (Option.some.inj (h2 q9)).symm, fun q9 => (Option.some.inj (h1 (Classical.not_not.mp q9))).symm⟩
  · exact ⟨fun q9 => (Option.some.inj (h1 q9)).symm, fun q9 => (Option.some.inj (h2 q9)).symm⟩
  · exact ⟨fun q9 => (Option.some.inj (h2 (by omega))).symm, fun q9 => (Option.some.inj (h1 (by omega))).symm⟩
  · exact ⟨fun q9 => (Option.some.inj (h1 q9)).symm, fun q9 => (Option.some.inj (h2 q9)).symm⟩
  · exact ⟨fun q9 => (Option.some.inj (h2 (by omega))).symm, fun q9 => (Option.some.inj (h1 (by omega))).symm⟩
theorem sn_br {pcs : Nat → Nat} {co : ClassFile.Cond} {x y : Int} {t : Nat} {vs : List AV} (hp : pcs (k + 1) = pcs k + 3)
    (row : ∀ (ad : Nat → Nat) (H : Heap) (locs : List Loc) (cells slots : Nat) (cls : Array Slot) (rest : List Value), (∀ v ∈ vs, inR h.1 v) → (am_cmp co x y = true → W p l e R s m args below meth c H locs cells slots Q (F0 m (pcs t) cls rest)) → (am_cmp co x y = false → W p l e R s m args below meth c H locs cells slots Q (F0 m (pcs k + 3) cls rest)) → W p l e R s m args below meth c H locs cells slots Q (F0 m (pcs k) cls (vs.map (cvv ad) ++ rest)))
    {q : Nat × AL × List AV × AH} (eq : am_br co x y t k ls st h = some q) (hk : SW p l e R s m args below meth c Q tyC D b L sa base xs A ad0 c0 s0 nL (pcs q.1) q.2.1 q.2.2.1 q.2.2.2) : SW p l e R s m args below meth c Q tyC D b L sa base xs A ad0 c0 s0 nL (pcs k) ls (vs ++ st) h := by
  intro ad H locs cls cells slots hR hS hl hst hc hs
  rw [List.map_append]
  obtain ⟨e1, e2⟩ := am_br_eq eq
  refine row ad _ _ _ _ _ _ (fun v hv => hst v (List.mem_append_left _ hv)) (fun z => ?_) (fun z => ?_)
  · have e := e1 z
    subst e
    exact hk ad H locs cls cells slots hR hS hl (fun v hv => hst v (List.mem_append_right _ hv)) hc hs
  · have e := e2 z
    subst e
    have := hk ad H locs cls cells slots hR hS hl (fun v hv => hst v (List.mem_append_right _ hv)) hc hs
    rw [← hp]
    exact this
end SND
