/-! part 2: what is looked up once of each instruction; a step of the abstract machine is steps of the real one -/
def gtW : List Jvm.Cond := lw_tbl.filter goodWord
def wB (i : Nat) (w : Jvm.Cond) : Bool := decide (lw_tbl[i]? = some w) && goodWord w
theorem wB_of {i : Nat} {w : Jvm.Cond} (h : wB i w = true) : w ∈ gtW := by
  unfold wB at h
  simp only [Bool.and_eq_true, decide_eq_true_eq] at h
  exact List.mem_filter.mpr ⟨List.mem_of_getElem? h.1, h.2⟩
def dk (B : ByteArray) (pc pc' : Nat) (i : Instr) (len : Nat) : Bool := decide (decode B pc = .ok (i, len)) && (pc' == pc + len)
theorem dk_of {B : ByteArray} {pc pc' : Nat} {i : Instr} {len : Nat} (h : dk B pc pc' i len = true) : decode B pc = .ok (i, len) ∧ pc' = pc + len := by
  unfold dk at h
  simp only [Bool.and_eq_true, decide_eq_true_eq, beq_iff_eq] at h
  exact h
def dj (B : ByteArray) (pc pc' : Nat) (i : Instr) (off : Int) (tg : Nat) : Bool := decide (decode B pc = .ok (i, 3)) && (pc' == pc + 3) && decide ((pc : Int) + off = (tg : Int))
theorem dj_of {B : ByteArray} {pc pc' : Nat} {i : Instr} {off : Int} {tg : Nat} (h : dj B pc pc' i off tg = true) : decode B pc = .ok (i, 3) ∧ pc' = pc + 3 ∧ (pc : Int) + off = (tg : Int) := by
  unfold dj at h
  simp only [Bool.and_eq_true, decide_eq_true_eq, beq_iff_eq] at h
  exact ⟨h.1.1, h.1.2, h.2⟩
def rgB (z : Int) : Bool := decide (-2147483648 ≤ z) && decide (z < 2147483648)
def rgLB (z : Int) : Bool := decide (-9223372036854775808 ≤ z) && decide (z < 9223372036854775808)
def coB (oi ix kd : Nat) (z : Int) : Bool := coD.any (fun q => q.1 == oi && q.2.1 == ix && q.2.2.1 == kd && decide (q.2.2.2.1 = z))
def frB (oi ix tag slot kind : Nat) : Bool := frD.any (fun q => q.1 == oi && q.2.1 == ix && q.2.2.1 == tag && q.2.2.2.1 == slot && q.2.2.2.2.1 == kind)
def fnB (tag slot : Nat) : Bool := match vwCl[tag]? with
  | some q => (q.2.1 slot).2.2.2
  | none => true
def nwB (oi ix tag n : Nat) : Bool := nwD.any (fun q => q.1 == oi && q.2.1 == ix && q.2.2.1 == tag && q.2.2.2.1 == n)
def arB (oi ix kd : Nat) : Bool := arD.any (fun q => q.1 == oi && q.2.1 == ix && q.2.2.1 == kd)
def obB (oi ix : Nat) : Bool := obD.any (fun q => q.1 == oi && q.2.1 == ix)
def crB (oi ix kd c na tag : Nat) : Bool := crD.any (fun q => q.1 == oi && q.2.1 == ix && q.2.2.1 == kd && q.2.2.2.1 == c && q.2.2.2.2.1 == na && q.2.2.2.2.2.1 == tag)
/-- the pairs of a switch against its targets -/
def swB (pc : Nat) (tg : Nat → Nat) : List Int → List Nat → Bool
  | [], [] => true
  | o :: os, t :: ts => decide ((pc : Int) + o = (tg t : Int)) && swB pc tg os ts
  | _, _ => false
def insB (oi : Nat) (ct : Bool) (ret : Option FieldType) (B : ByteArray) (pc pc' : Nat) (tg : Nat → Nat) (i : Instr) (z : Int) (ns : List Nat) : Bool := match i with
  | .iconst n => dk B pc pc' (.iconst n) 1 && decide (Int32.ofInt n = Int32.ofInt z) && rgB z
  | .bipush n => dk B pc pc' (.bipush n) 2 && decide ((Int8.ofInt n).toInt32 = Int32.ofInt z) && rgB z
  | .sipush n => dk B pc pc' (.sipush n) 3 && decide ((Int16.ofInt n).toInt32 = Int32.ofInt z) && rgB z
  | .ldc ix => dk B pc pc' (.ldc ix) 2 && (match ns with | [] => coB oi ix 0 z && rgB z | _ => decide (ownN oi = "StarDays$LawReader") && decide (ix = 100))
  | .getstatic ix => dk B pc pc' (.getstatic ix) 3 && (decide (ownN oi = "java/lang/String") && decide (ix = 38))
  | .i2c => dk B pc pc' .i2c 1
  | .ldc_w ix => dk B pc pc' (.ldc_w ix) 3 && coB oi ix 0 z && rgB z
  | .lconst n => dk B pc pc' (.lconst n) 1 && decide (Int64.ofNat (n : Nat) = Int64.ofInt z) && rgLB z
  | .ldc2_w ix => dk B pc pc' (.ldc2_w ix) 3 && coB oi ix 1 z && rgLB z
  | .iload n => dk B pc pc' (.iload n) 2 && (ns.getD 0 0 == n)
  | .lload n => dk B pc pc' (.lload n) 2 && (ns.getD 0 0 == n)
  | .aload n => dk B pc pc' (.aload n) 2 && (ns.getD 0 0 == n)
  | .istore n => dk B pc pc' (.istore n) 2 && (ns.getD 0 0 == n)
  | .lstore n => dk B pc pc' (.lstore n) 2 && (ns.getD 0 0 == n)
  | .astore n => dk B pc pc' (.astore n) 2 && (ns.getD 0 0 == n)
  | .iload_n n => dk B pc pc' (.iload_n n) 1 && (ns.getD 0 0 == (n : Nat))
  | .lload_n n => dk B pc pc' (.lload_n n) 1 && (ns.getD 0 0 == (n : Nat))
  | .aload_n n => dk B pc pc' (.aload_n n) 1 && (ns.getD 0 0 == (n : Nat))
  | .istore_n n => dk B pc pc' (.istore_n n) 1 && (ns.getD 0 0 == (n : Nat))
  | .lstore_n n => dk B pc pc' (.lstore_n n) 1 && (ns.getD 0 0 == (n : Nat))
  | .astore_n n => dk B pc pc' (.astore_n n) 1 && (ns.getD 0 0 == (n : Nat))
  | .iinc n d => dk B pc pc' (.iinc n d) 3 && (ns.getD 0 0 == n) && decide (d = z)
  | .ifCond c o => dj B pc pc' (.ifCond c o) o (tg (ns.getD 0 0))
  | .if_icmp c o => dj B pc pc' (.if_icmp c o) o (tg (ns.getD 0 0))
  | .goto o => dj B pc pc' (.goto o) o (tg (ns.getD 0 0))
  | .tableswitch d lo hi os => (match decode B pc with
    | .ok (j, _) => decide (j = .tableswitch d lo hi os)
    | _ => false) && decide (hi + 1 = lo + os.size) && swB pc tg (d :: os.toList) ns && rgB lo && rgB hi
  | .lookupswitch d ps => (match decode B pc with
    | .ok (j, _) => decide (j = .lookupswitch d ps)
    | _ => false) && swB pc tg (d :: ps.toList.map (fun q => q.2)) ns && (ps.toList.zip (ps.toList.drop 1)).all (fun (a, next) => a.1 < next.1)
  | .new ix => dk B pc pc' (.new ix) 3 && nwB oi ix (ns.getD 0 0) (ns.getD 1 0)
  | .newarray t => dk B pc pc' (.newarray t) 2 && (match t with | .int => ns.getD 0 0 == 100 | .byte => ns.getD 0 0 == 101 | .boolean => ns.getD 0 0 == 102 | .long => ns.getD 0 0 == 103 | _ => false)
  | .anewarray ix => dk B pc pc' (.anewarray ix) 3 && arB oi ix 0 && (ns.getD 0 0 == 105)
  | .multianewarray ix d => dk B pc pc' (.multianewarray ix 2) 4 && arB oi ix 1 && (ns.getD 0 0 == 104) && (ns.getD 1 0 == 100) && (d == 2)
  | .baload => dk B pc pc' .baload 1 && (if ns.getD 0 0 = 300 then true else ns.getD 0 0 == 101 || ns.getD 0 0 == 102)
  | .bastore => dk B pc pc' .bastore 1 && (ns.getD 0 0 == 101 || ns.getD 0 0 == 102)
  | .aaload => dk B pc pc' .aaload 1 && (ns.getD 0 0 == 104 || ns.getD 0 0 == 105)
  | .aastore => dk B pc pc' .aastore 1 && (ns.getD 0 0 == 105) && (ns.getD 1 0 == 4)
  | .getfield ix => dk B pc pc' (.getfield ix) 3 && (if ns.getD 0 0 = 300 then decide (ownN oi = "java/lang/String") && (decide (ns.getD 1 0 = 0 ∧ ix = 9) || decide (ns.getD 1 0 = 1 ∧ ix = 15)) else frB oi ix (ns.getD 0 0) (ns.getD 1 0) (ns.getD 2 0))
  | .putfield ix => dk B pc pc' (.putfield ix) 3 && frB oi ix (ns.getD 0 0) (ns.getD 1 0) (ns.getD 2 0) && (!(fnB (ns.getD 0 0) (ns.getD 1 0)) || (ct && (oi == ns.getD 0 0)))
  | .invokespecial ix => dk B pc pc' (.invokespecial ix) 3 && (if ns.length = 0 then obB oi ix else (ns.getD 2 0 == 1) && (crB oi ix 2 (ns.getD 0 0) (ns.getD 1 0) (ns.getD 3 0) || crB oi ix 3 (ns.getD 0 0) (ns.getD 1 0) (ns.getD 3 0)))
  | .invokevirtual ix => dk B pc pc' (.invokevirtual ix) 3 && (ns.getD 0 0 == 900 || ((ns.getD 2 0 == 1) && crB oi ix 0 (ns.getD 0 0) (ns.getD 1 0) (ns.getD 3 0) || (ns.getD 2 0 == 2) && crB oi ix 4 (ns.getD 0 0) (ns.getD 1 0) (ns.getD 3 0)))
  | .invokestatic ix => dk B pc pc' (.invokestatic ix) 3 && (ns.getD 0 0 == 900 || (ns.getD 2 0 == 0) && crB oi ix 1 (ns.getD 0 0) (ns.getD 1 0) 0)
  | .ireturn => decide (decode B pc = .ok (.ireturn, 1)) && (ns.getD 0 0 == 0 && decide (ret = some .int) || ns.getD 0 0 == 1 && decide (ret = some .boolean) || ns.getD 0 0 == 2 && decide (ret = some .byte))
  | .lreturn => decide (decode B pc = .ok (.lreturn, 1)) && decide (ret = some .long)
  | .return_ => decide (decode B pc = .ok (.return_, 1)) && decide (ret = none)
  | .pop => dk B pc pc' .pop 1
  | .pop2 => dk B pc pc' .pop2 1
  | .dup => dk B pc pc' .dup 1
  | .dup2 => dk B pc pc' .dup2 1
  | .iadd => dk B pc pc' .iadd 1
  | .isub => dk B pc pc' .isub 1
  | .imul => dk B pc pc' .imul 1
  | .idiv => dk B pc pc' .idiv 1
  | .irem => dk B pc pc' .irem 1
  | .iand => dk B pc pc' .iand 1
  | .ior => dk B pc pc' .ior 1
  | .ixor => dk B pc pc' .ixor 1
  | .ishl => dk B pc pc' .ishl 1
  | .ishr => dk B pc pc' .ishr 1
  | .iushr => dk B pc pc' .iushr 1
  | .ladd => dk B pc pc' .ladd 1
  | .lsub => dk B pc pc' .lsub 1
  | .lmul => dk B pc pc' .lmul 1
  | .ldiv => dk B pc pc' .ldiv 1
  | .lrem => dk B pc pc' .lrem 1
  | .land => dk B pc pc' .land 1
  | .lor => dk B pc pc' .lor 1
  | .lxor => dk B pc pc' .lxor 1
  | .lshl => dk B pc pc' .lshl 1
  | .lshr => dk B pc pc' .lshr 1
  | .lushr => dk B pc pc' .lushr 1
  | .lneg => dk B pc pc' .lneg 1
  | .lcmp => dk B pc pc' .lcmp 1
  | .i2l => dk B pc pc' .i2l 1
  | .l2i => dk B pc pc' .l2i 1
  | .i2b => dk B pc pc' .i2b 1
  | .iaload => dk B pc pc' .iaload 1
  | .laload => dk B pc pc' .laload 1
  | .iastore => dk B pc pc' .iastore 1
  | .lastore => dk B pc pc' .lastore 1
  | .arraylength => dk B pc pc' .arraylength 1
  | _ => false
/-- all instructions of a method -/
def metB (oi : Nat) (ct : Bool) (ret : Option FieldType) (B : ByteArray) (tg : Nat → Nat) : List Ins → List Nat → Bool
  | [], _ => true
  | (i, z, ns) :: r, pc :: pc' :: ps => insB oi ct ret B pc pc' tg i z ns && metB oi ct ret B tg r (pc' :: ps)
  | _, _ => false
theorem metB_at {oi : Nat} {ct : Bool} {ret : Option FieldType} {B : ByteArray} {tg : Nat → Nat} : ∀ (cs : List Ins) (ps : List Nat), metB oi ct ret B tg cs ps = true → ∀ (k : Nat) (i : Instr) (z : Int) (ns : List Nat), cs[k]? = some (i, z, ns) → insB oi ct ret B (ps.getD k 0) (ps.getD (k + 1) 0) tg i z ns = true
  | [], _, _, k, i, z, ns, hk => by simp at hk
  | (i0, z0, n0) :: r, pc :: pc' :: ps, h, k, i, z, ns, hk => by
    rw [metB, Bool.and_eq_true] at h
    cases k with
    | zero =>
      simp only [List.getElem?_cons_zero, Option.some.injEq, Prod.mk.injEq] at hk
      obtain ⟨rfl, rfl, rfl⟩ := hk
      exact h.1
    | succ k =>
      have := metB_at r (pc' :: ps) h.2 k i z ns (by simpa using hk)
      simpa using this
  | _ :: _, [], h, _, _, _, _, _ => by simp [metB] at h
  | _ :: _, [_], h, _, _, _, _, _ => by simp [metB] at h
def metC (m : Nat) : Bool := metB (mO m) (decide ((mY m).name = "<init>")) (mR m) (mB m) (fun j => (pcT m).getD j 0) (codeT m) (pcT m)
-- ===== what the tables say, for all entries at once =====
def frC (q : Nat × Nat × Nat × Nat × Nat × Nat) : Bool := match vwCl[q.2.2.1]? with
  | none => false
  | some (C, T, N) => decide (q.2.2.2.1 < N) && wB q.2.2.2.2.2 (.fieldLink (ownN q.1) q.2.1 (T q.2.2.2.1).1 (T q.2.2.2.1).2.1 (T q.2.2.2.1).2.2.1) && decide ((fkN q.2.2.1).getD q.2.2.2.1 0 = q.2.2.2.2.1) && decide (q.2.2.1 < 100) && decide (ownN q.2.2.1 = (T q.2.2.2.1).1) && (match q.2.2.2.2.1, parseFieldDescriptor (T q.2.2.2.1).2.2.1 with
    | 0, some .int => true
    | 1, some .long => true
    | 2, some (.object _) => true
    | 2, some (.array _) => true
    | 3, some .boolean => true
    | _, _ => false)
def coC (q : Nat × Nat × Nat × Int × Nat) : Bool := if q.2.2.1 = 0 then wB q.2.2.2.2 (.constant (ownN q.1) q.2.1 (Int32.ofInt q.2.2.2.1)) else wB q.2.2.2.2 (.constantLong (ownN q.1) q.2.1 (Int64.ofInt q.2.2.2.1))
def nwC (q : Nat × Nat × Nat × Nat × Nat × Nat × Nat) : Bool := match vwCl[q.2.2.1]? with
  | none => false
  | some (C, T, N) => decide (N = q.2.2.2.1) && wB q.2.2.2.2.1 (.classLink (ownN q.1) q.2.1 C) && wB q.2.2.2.2.2.1 (.instantiable C N) && wB q.2.2.2.2.2.2 (.initialized C) && decide (q.2.2.1 < 100)
def arC (q : Nat × Nat × Nat × Nat) : Bool := if q.2.2.1 = 0 then wB q.2.2.2 (.classLink (ownN q.1) q.2.1 "StarDays$Law") else wB q.2.2.2 (.classLink (ownN q.1) q.2.1 ("[" ++ (FieldType.array .int).toString))
def obC (q : Nat × Nat × Nat) : Bool := wB q.2.2 (.methodLink (ownN q.1) q.2.1 objectInit)
def crC (q : Nat × Nat × Nat × Nat × Nat × Nat × Nat × Nat × Nat) : Bool := match q with
  | (oi, ix, kd, c, na, tag, w1, w2, w3) => decide (c < 900) && (match kd with
    | 0 => wB w1 (.methodLink (ownN oi) ix (mY c)) && wB w2 (.instanceMethod (mY c)) && wB w3 (.selects (mY c).cls (mY c) (mY c)) && decide (na = mP c + 1) && (match vwCl[tag]? with | some q => decide (q.1 = (mY c).cls) | none => false)
    | 1 => wB w1 (.methodLink (ownN oi) ix (mY c)) && wB w2 (.static (mY c)) && decide (na = mP c)
    | 2 => wB w1 (.methodLink (ownN oi) ix (mY c)) && wB w2 (.instanceMethod (mY c)) && decide (na = mP c + 1) && decide ((mY c).name = "<init>") && decide (mR c = none)
    | 4 => wB w1 (.methodLink (ownN oi) ix (mY c)) && wB w2 (.instanceMethod (mY c)) && wB w3 (.selects (mY c).cls (mY c) (mY c)) && decide (na = mP c + 1) && decide ((mY c).cls = "java/lang/String")
    | 3 => decide (.methodLinkNest (ownN oi) ix (mY c) "StarDays" ∈ nestW) && wB w2 (.instanceMethod (mY c)) && decide (na = mP c + 1) && decide ((mY c).name = "<init>") && decide (mR c = none)
    | _ => false)
/-- of each method: its words -/
def isC (w : Option Jvm.Cond) (y : MethodName) (x : Nat) (r : Option FieldType) : Bool := match w with
  | some (.code y2 _ x2 r2) => decide (y2 = y) && decide (x2 = x) && decide (r2 = r)
  | _ => false
theorem isC_of {w : Option Jvm.Cond} {y : MethodName} {x : Nat} {r : Option FieldType} (h : isC w y x r = true) : w = some (.code y (cdOf w) x r) := by
  unfold isC at h
  split at h
  · simp only [Bool.and_eq_true, decide_eq_true_eq] at h
    obtain ⟨⟨rfl, rfl⟩, rfl⟩ := h
    rfl
  · cases h
def mtC (c : Nat) : Bool := isC (lw_tbl[(mWL.getD c (0, 0)).1]?) (mY c) (mX c) (mR c) && wB (mWL.getD c (0, 0)).2 (.initialized (mY c).cls) && plainFor (mY c) && decide (mX c ≤ 45) && decide ((mY c).cls ≠ "java/lang/invoke/MethodHandle") && decide ((mY c).cls ≠ "java/lang/invoke/VarHandle") && decide ((parseMethodDescriptor (mY c).desc).map (fun d => d.parameters.length) = some (mP c)) && decide (ownN (mO c) = (mY c).cls)
theorem all_td {α : Type} {l : List α} {f : α → Bool} (n : Nat) (h1 : (l.take n).all f = true) (h2 : (l.drop n).all f = true) : l.all f = true := by
  rw [← List.take_append_drop n l, List.all_append, h1, h2]
  rfl
theorem frA_0 : ((frD.drop 0).take 35).all frC = true := by decide +kernel
theorem frA_1 : ((frD.drop 35).take 35).all frC = true := by decide +kernel
theorem frA_2 : ((frD.drop 70).take 35).all frC = true := by decide +kernel
theorem frA_3 : ((frD.drop 105).take 35).all frC = true := by decide +kernel
theorem frA_z : (frD.drop 140).all frC = true := by decide +kernel
theorem frA_c3 : (frD.drop 105).all frC = true := all_td 35 frA_3 (by rw [List.drop_drop]; exact frA_z)
theorem frA_c2 : (frD.drop 70).all frC = true := all_td 35 frA_2 (by rw [List.drop_drop]; exact frA_c3)
theorem frA_c1 : (frD.drop 35).all frC = true := all_td 35 frA_1 (by rw [List.drop_drop]; exact frA_c2)
theorem frA_c0 : (frD.drop 0).all frC = true := all_td 35 frA_0 (by rw [List.drop_drop]; exact frA_c1)
theorem frA : frD.all frC = true := frA_c0
theorem coA_0 : ((coD.drop 0).take 20).all coC = true := by decide +kernel
theorem coA_z : (coD.drop 20).all coC = true := by decide +kernel
theorem coA_c0 : (coD.drop 0).all coC = true := all_td 20 coA_0 (by rw [List.drop_drop]; exact coA_z)
theorem coA : coD.all coC = true := coA_c0
theorem nwA_0 : ((nwD.drop 0).take 20).all nwC = true := by decide +kernel
theorem nwA_z : (nwD.drop 20).all nwC = true := by decide +kernel
theorem nwA_c0 : (nwD.drop 0).all nwC = true := all_td 20 nwA_0 (by rw [List.drop_drop]; exact nwA_z)
theorem nwA : nwD.all nwC = true := nwA_c0
theorem arA_0 : ((arD.drop 0).take 10).all arC = true := by decide +kernel
theorem arA_z : (arD.drop 10).all arC = true := by decide +kernel
theorem arA_c0 : (arD.drop 0).all arC = true := all_td 10 arA_0 (by rw [List.drop_drop]; exact arA_z)
theorem arA : arD.all arC = true := arA_c0
theorem obA_0 : ((obD.drop 0).take 20).all obC = true := by decide +kernel
theorem obA_z : (obD.drop 20).all obC = true := by decide +kernel
theorem obA_c0 : (obD.drop 0).all obC = true := all_td 20 obA_0 (by rw [List.drop_drop]; exact obA_z)
theorem obA : obD.all obC = true := obA_c0
theorem crA_0 : ((crD.drop 0).take 25).all crC = true := by decide +kernel
theorem crA_1 : ((crD.drop 25).take 25).all crC = true := by decide +kernel
theorem crA_2 : ((crD.drop 50).take 25).all crC = true := by decide +kernel
theorem crA_3 : ((crD.drop 75).take 25).all crC = true := by decide +kernel
theorem crA_4 : ((crD.drop 100).take 25).all crC = true := by decide +kernel
theorem crA_5 : ((crD.drop 125).take 25).all crC = true := by decide +kernel
theorem crA_6 : ((crD.drop 150).take 25).all crC = true := by decide +kernel
theorem crA_7 : ((crD.drop 175).take 25).all crC = true := by decide +kernel
theorem crA_8 : ((crD.drop 200).take 25).all crC = true := by decide +kernel
theorem crA_9 : ((crD.drop 225).take 25).all crC = true := by decide +kernel
theorem crA_z : (crD.drop 250).all crC = true := by decide +kernel
theorem crA_c9 : (crD.drop 225).all crC = true := all_td 25 crA_9 (by rw [List.drop_drop]; exact crA_z)
theorem crA_c8 : (crD.drop 200).all crC = true := all_td 25 crA_8 (by rw [List.drop_drop]; exact crA_c9)
theorem crA_c7 : (crD.drop 175).all crC = true := all_td 25 crA_7 (by rw [List.drop_drop]; exact crA_c8)
theorem crA_c6 : (crD.drop 150).all crC = true := all_td 25 crA_6 (by rw [List.drop_drop]; exact crA_c7)
theorem crA_c5 : (crD.drop 125).all crC = true := all_td 25 crA_5 (by rw [List.drop_drop]; exact crA_c6)
theorem crA_c4 : (crD.drop 100).all crC = true := all_td 25 crA_4 (by rw [List.drop_drop]; exact crA_c5)
theorem crA_c3 : (crD.drop 75).all crC = true := all_td 25 crA_3 (by rw [List.drop_drop]; exact crA_c4)
theorem crA_c2 : (crD.drop 50).all crC = true := all_td 25 crA_2 (by rw [List.drop_drop]; exact crA_c3)
theorem crA_c1 : (crD.drop 25).all crC = true := all_td 25 crA_1 (by rw [List.drop_drop]; exact crA_c2)
theorem crA_c0 : (crD.drop 0).all crC = true := all_td 25 crA_0 (by rw [List.drop_drop]; exact crA_c1)
theorem crA : crD.all crC = true := crA_c0
def csC : Bool := wB csW.1 (.fieldLink "java/lang/String" 38 "java/lang/String" "COMPACT_STRINGS" "Z") && (wB csW.2.1 (.fieldLink "java/lang/String" 15 "java/lang/String" "coder" "B") && wB csW.2.2 (.fieldLink "java/lang/String" 9 "java/lang/String" "value" "[B"))
theorem csA : csC = true := by decide +kernel
theorem cs_ok : Jvm.Cond.fieldLink "java/lang/String" 38 "java/lang/String" "COMPACT_STRINGS" "Z" ∈ gtW ∧ Jvm.Cond.fieldLink "java/lang/String" 15 "java/lang/String" "coder" "B" ∈ gtW ∧ Jvm.Cond.fieldLink "java/lang/String" 9 "java/lang/String" "value" "[B" ∈ gtW := by
  have h := csA
  unfold csC at h
  simp only [Bool.and_eq_true] at h
  exact ⟨wB_of h.1, wB_of h.2.1, wB_of h.2.2⟩
theorem mtA_0 : ((((List.range 226).drop 1).drop 0).take 55).all mtC = true := by decide +kernel
theorem mtA_1 : ((((List.range 226).drop 1).drop 55).take 55).all mtC = true := by decide +kernel
theorem mtA_2 : ((((List.range 226).drop 1).drop 110).take 55).all mtC = true := by decide +kernel
theorem mtA_3 : ((((List.range 226).drop 1).drop 165).take 55).all mtC = true := by decide +kernel
theorem mtA_z : (((List.range 226).drop 1).drop 220).all mtC = true := by decide +kernel
theorem mtA_c3 : (((List.range 226).drop 1).drop 165).all mtC = true := all_td 55 mtA_3 (by rw [List.drop_drop]; exact mtA_z)
theorem mtA_c2 : (((List.range 226).drop 1).drop 110).all mtC = true := all_td 55 mtA_2 (by rw [List.drop_drop]; exact mtA_c3)
theorem mtA_c1 : (((List.range 226).drop 1).drop 55).all mtC = true := all_td 55 mtA_1 (by rw [List.drop_drop]; exact mtA_c2)
theorem mtA_c0 : (((List.range 226).drop 1).drop 0).all mtC = true := all_td 55 mtA_0 (by rw [List.drop_drop]; exact mtA_c1)
theorem mtA : ((List.range 226).drop 1).all mtC = true := mtA_c0
