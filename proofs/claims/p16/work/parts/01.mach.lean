/-! THE ABSTRACT MACHINE: bytecode over numbers (Int), references by their number in the order of making -/
abbrev AV : Type := Int ⊕ (Int ⊕ Option Nat)
abbrev AH : Type := Nat × Nat × (Nat → Nat × Nat) × (Nat → Nat → Int) × (Nat → Nat → Int) × (Nat → Nat → Option Nat)
abbrev AL : Type := List (Option AV)
abbrev AR : Type := Option (Nat × AL × List AV × AH)
abbrev Ins : Type := Instr × Int × List Nat
def w32 (z : Int) : Int := (z + 2147483648) % 4294967296 - 2147483648
def w64 (z : Int) : Int := (z + 9223372036854775808) % 18446744073709551616 - 9223372036854775808
def w8 (z : Int) : Int := (z + 128) % 256 - 128
def up1 {α : Type} (f : Nat → α) (a : Nat) (v : α) : Nat → α := fun x => if x = a then v else f x
def up2 {α : Type} (f : Nat → Nat → α) (a j : Nat) (v : α) : Nat → Nat → α := fun x y => if x = a ∧ y = j then v else f x y
/-- a check -/
def am_g {α : Type} (c : Prop) [Decidable c] (x : Option α) : Option α := if c then x else none
def am_if (c : Prop) [Decidable c] (x y : AR) : AR := if c then x else y
/-- the locals behind a store: a long that ends here is gone, a long takes two -/
def am_clr (ls : AL) (i : Nat) : AL := match i with
  | 0 => ls
  | j + 1 => match ls[j]? with
    | some (some (.inr (.inl _))) => ls.set j none
    | _ => ls
def am_st1 (ls : AL) (i : Nat) (v : AV) : AL := (am_clr ls i).set i (some v)
def am_st2 (ls : AL) (i : Nat) (v : AV) : AL := ((am_clr ls i).set i (some v)).set (i + 1) none
def am_cat : AV → Nat
  | .inr (.inl _) => 2
  | _ => 1
def am_cats : List AV → Nat
  | [] => 0
  | v :: t => am_cat v + am_cats t
def am_bin (f : Int → Int → Int) (k : Nat) (ls : AL) (st : List AV) (h : AH) : AR := match st with
  | .inl b :: .inl a :: st => some (k + 1, ls, .inl (f a b) :: st, h)
  | _ => none
def am_binL (f : Int → Int → Int) (k : Nat) (ls : AL) (st : List AV) (h : AH) : AR := match st with
  | .inr (.inl b) :: .inr (.inl a) :: st => some (k + 1, ls, .inr (.inl (f a b)) :: st, h)
  | _ => none
def am_div (f : Int → Int → Int) (k : Nat) (ls : AL) (st : List AV) (h : AH) : AR := match st with
  | .inl b :: .inl a :: st => am_g (b ≠ 0) (some (k + 1, ls, .inl (f a b) :: st, h))
  | _ => none
def am_divL (f : Int → Int → Int) (k : Nat) (ls : AL) (st : List AV) (h : AH) : AR := match st with
  | .inr (.inl b) :: .inr (.inl a) :: st => am_g (b ≠ 0) (some (k + 1, ls, .inr (.inl (f a b)) :: st, h))
  | _ => none
def am_shL (f : Int → Int → Int) (k : Nat) (ls : AL) (st : List AV) (h : AH) : AR := match st with
  | .inl b :: .inr (.inl a) :: st => some (k + 1, ls, .inr (.inl (f a b)) :: st, h)
  | _ => none
def am_ldI (j k : Nat) (ls : AL) (st : List AV) (h : AH) : AR := match ls[j]? with
  | some (some (.inl x)) => some (k + 1, ls, .inl x :: st, h)
  | _ => none
def am_ldL (j k : Nat) (ls : AL) (st : List AV) (h : AH) : AR := match ls[j]? with
  | some (some (.inr (.inl x))) => some (k + 1, ls, .inr (.inl x) :: st, h)
  | _ => none
def am_ldA (j k : Nat) (ls : AL) (st : List AV) (h : AH) : AR := match ls[j]? with
  | some (some (.inr (.inr (some x)))) => some (k + 1, ls, .inr (.inr (some x)) :: st, h)
  | _ => none
def am_stI (j k : Nat) (ls : AL) (st : List AV) (h : AH) : AR := match st with
  | .inl x :: st => am_g (j < ls.length) (some (k + 1, am_st1 ls j (.inl x), st, h))
  | _ => none
def am_stL (j k : Nat) (ls : AL) (st : List AV) (h : AH) : AR := match st with
  | .inr (.inl x) :: st => am_g (j + 1 < ls.length) (some (k + 1, am_st2 ls j (.inr (.inl x)), st, h))
  | _ => none
def am_stA (j k : Nat) (ls : AL) (st : List AV) (h : AH) : AR := match st with
  | .inr (.inr (some x)) :: st => am_g (j < ls.length) (some (k + 1, am_st1 ls j (.inr (.inr (some x))), st, h))
  | _ => none
def am_cmp (c : ClassFile.Cond) (a b : Int) : Bool := match c with
  | .eq => decide (a = b)
  | .ne => decide (a ≠ b)
  | .lt => decide (a < b)
  | .ge => decide (b ≤ a)
  | .gt => decide (b < a)
  | .le => decide (a ≤ b)
def am_br (c : ClassFile.Cond) (a b : Int) (t k : Nat) (ls : AL) (st : List AV) (h : AH) : AR := match c with
  | .eq => am_if (a = b) (some (t, ls, st, h)) (some (k + 1, ls, st, h))
  | .ne => am_if (a = b) (some (k + 1, ls, st, h)) (some (t, ls, st, h))
  | .lt => am_if (a < b) (some (t, ls, st, h)) (some (k + 1, ls, st, h))
  | .ge => am_if (a < b) (some (k + 1, ls, st, h)) (some (t, ls, st, h))
  | .gt => am_if (b < a) (some (t, ls, st, h)) (some (k + 1, ls, st, h))
  | .le => am_if (b < a) (some (k + 1, ls, st, h)) (some (t, ls, st, h))
/-- the numbers of a switch: (value, target) .., then default -/
def am_sw (x : Int) (ls : AL) (st : List AV) (h : AH) (d : Nat) : List (Int × Nat) → AR
  | [] => some (d, ls, st, h)
  | (v, t) :: r => am_if (x = v) (some (t, ls, st, h)) (am_sw x ls st h d r)
def am_zip (lo : Int) : List Nat → List (Int × Nat)
  | [] => []
  | t :: r => (lo, t) :: am_zip (lo + 1) r
def am_zip2 : List (Int × Int) → List Nat → List (Int × Nat)
  | (v, _) :: p, t :: r => (v, t) :: am_zip2 p r
  | _, _ => []
def am_newo (tag n k : Nat) (ls : AL) (st : List AV) (h : AH) : AR := match h with
  | (c, s, T, I, J, R) => am_g (c < 1000000) (some (k + 1, ls, .inr (.inr (some c)) :: st, (c + 1, s + n, up1 T c (tag, n), (fun x => if x = c then fun _ => 0 else I x), (fun x => if x = c then fun _ => 0 else J x), (fun x => if x = c then fun _ => none else R x))))
def am_newa (tag k : Nat) (ls : AL) (st : List AV) (h : AH) : AR := match st with
  | .inl z :: st => am_g (0 ≤ z ∧ z ≤ 60000000) (am_newo tag z.toNat k ls st h)
  | _ => none
/-- new T[n][m]: the outer array, then the inner ones -/
def am_newm (tag tag2 k : Nat) (ls : AL) (st : List AV) (h : AH) : AR := match st with
  | .inl z :: .inl y :: st => match h with
    | (c, s, T, I, J, R) => am_g (0 ≤ z ∧ z ≤ 10000000 ∧ 0 ≤ y ∧ y ≤ 10000000 ∧ c + 1 + y.toNat < 1000000) (some (k + 1, ls, .inr (.inr (some c)) :: st, (c + 1 + y.toNat, s + y.toNat + y.toNat * z.toNat, (fun x => if x = c then (tag, y.toNat) else if c < x ∧ x ≤ c + y.toNat then (tag2, z.toNat) else T x), (fun x => if c ≤ x ∧ x ≤ c + y.toNat then fun _ => 0 else I x), (fun x => if c ≤ x ∧ x ≤ c + y.toNat then fun _ => 0 else J x), (fun x => if x = c then fun j => if j < y.toNat then some (c + 1 + j) else none else if c < x ∧ x ≤ c + y.toNat then fun _ => none else R x))))
  | _ => none
/-- an array's number, by its tag -/
def am_ald (tag k : Nat) (ls : AL) (st : List AV) (h : AH) : AR := match st with
  | .inl j :: .inr (.inr (some a)) :: st => match h with
    | (c, s, T, I, J, R) => am_g ((T a).1 = tag ∧ 0 ≤ j ∧ j < (T a).2 ∧ (a < c ∨ a = 1000000)) (some (k + 1, ls, .inl (I a j.toNat) :: st, (c, s, T, I, J, R)))
  | _ => none
def am_aldL (k : Nat) (ls : AL) (st : List AV) (h : AH) : AR := match st with
  | .inl j :: .inr (.inr (some a)) :: st => match h with
    | (c, s, T, I, J, R) => am_g ((T a).1 = 103 ∧ 0 ≤ j ∧ j < (T a).2 ∧ a < c) (some (k + 1, ls, .inr (.inl (J a j.toNat)) :: st, (c, s, T, I, J, R)))
  | _ => none
def am_aldA (tag k : Nat) (ls : AL) (st : List AV) (h : AH) : AR := match st with
  | .inl j :: .inr (.inr (some a)) :: st => match h with
    | (c, s, T, I, J, R) => am_g ((T a).1 = tag ∧ 0 ≤ j ∧ j < (T a).2 ∧ a < c) (some (k + 1, ls, .inr (.inr (R a j.toNat)) :: st, (c, s, T, I, J, R)))
  | _ => none
def am_ast (tag : Nat) (f : Int → Int) (k : Nat) (ls : AL) (st : List AV) (h : AH) : AR := match st with
  | .inl v :: .inl j :: .inr (.inr (some a)) :: st => match h with
    | (c, s, T, I, J, R) => am_g ((T a).1 = tag ∧ 0 ≤ j ∧ j < (T a).2 ∧ a < c) (some (k + 1, ls, st, (c, s, T, up2 I a j.toNat (f v), J, R)))
  | _ => none
def am_astZ (k : Nat) (ls : AL) (st : List AV) (h : AH) : AR := match st with
  | .inl v :: .inl j :: .inr (.inr (some a)) :: st => match h with
    | (c, s, T, I, J, R) => am_g ((T a).1 = 102 ∧ 0 ≤ j ∧ j < (T a).2 ∧ a < c ∧ 0 ≤ v ∧ v ≤ 1) (some (k + 1, ls, st, (c, s, T, up2 I a j.toNat v, J, R)))
  | _ => none
def am_astL (k : Nat) (ls : AL) (st : List AV) (h : AH) : AR := match st with
  | .inr (.inl v) :: .inl j :: .inr (.inr (some a)) :: st => match h with
    | (c, s, T, I, J, R) => am_g ((T a).1 = 103 ∧ 0 ≤ j ∧ j < (T a).2 ∧ a < c) (some (k + 1, ls, st, (c, s, T, I, up2 J a j.toNat v, R)))
  | _ => none
/-- an object into an array of objects of a class (the tag of the array, of the object) -/
def am_astA (tag tag2 k : Nat) (ls : AL) (st : List AV) (h : AH) : AR := match st with
  | .inr (.inr (some v)) :: .inl j :: .inr (.inr (some a)) :: st => match h with
    | (c, s, T, I, J, R) => am_g ((T a).1 = tag ∧ 0 ≤ j ∧ j < (T a).2 ∧ a < c ∧ (T v).1 = tag2 ∧ v < c) (some (k + 1, ls, st, (c, s, T, I, J, up2 R a j.toNat (some v))))
  | _ => none
def am_len (k : Nat) (ls : AL) (st : List AV) (h : AH) : AR := match st with
  | .inr (.inr (some a)) :: st => match h with
    | (c, s, T, I, J, R) => am_g (100 ≤ (T a).1 ∧ (T a).1 ≤ 105 ∧ (T a).2 < 2147483648 ∧ (a < c ∨ a = 1000000)) (some (k + 1, ls, .inl (T a).2 :: st, (c, s, T, I, J, R)))
  | _ => none
/-- a field: the tag of its class, its place, its kind (0 a number, 1 a long, 2 a reference, 3 a boolean) -/
def am_get (tag f kind k : Nat) (ls : AL) (st : List AV) (h : AH) : AR := match st with
  | .inr (.inr (some a)) :: st => match h with
    | (c, s, T, I, J, R) => am_g ((T a).1 = tag ∧ f < (T a).2 ∧ a < c) (some (k + 1, ls, (match kind with | 0 => .inl (I a f) | 1 => .inr (.inl (J a f)) | 2 => .inr (.inr (R a f)) | _ => .inl (I a f)) :: st, (c, s, T, I, J, R)))
  | _ => none
def am_put (tag f kind k : Nat) (ls : AL) (st : List AV) (h : AH) : AR := match kind with
  | 0 => match st with
    | .inl v :: .inr (.inr (some a)) :: st => match h with
      | (c, s, T, I, J, R) => am_g ((T a).1 = tag ∧ f < (T a).2 ∧ a < c) (some (k + 1, ls, st, (c, s, T, up2 I a f v, J, R)))
    | _ => none
  | 1 => match st with
    | .inr (.inl v) :: .inr (.inr (some a)) :: st => match h with
      | (c, s, T, I, J, R) => am_g ((T a).1 = tag ∧ f < (T a).2 ∧ a < c) (some (k + 1, ls, st, (c, s, T, I, up2 J a f v, R)))
    | _ => none
  | 2 => match st with
    | .inr (.inr (some v)) :: .inr (.inr (some a)) :: st => match h with
      | (c, s, T, I, J, R) => am_g ((T a).1 = tag ∧ f < (T a).2 ∧ a < c ∧ v < c) (some (k + 1, ls, st, (c, s, T, I, J, up2 R a f (some v))))
    | _ => none
  | _ => match st with
    | .inl v :: .inr (.inr (some a)) :: st => match h with
      | (c, s, T, I, J, R) => am_g ((T a).1 = tag ∧ f < (T a).2 ∧ a < c ∧ 0 ≤ v ∧ v ≤ 1) (some (k + 1, ls, st, (c, s, T, up2 I a f v, J, R)))
    | _ => none
/-- the text of letters: an old String (1000001) over its old bytes (1000002) -/
def txL : List Int := [110, 100, 98, 97, 104, 117, 115, 116, 121]
def txI (j : Nat) : Int := txL.getD j 0
def am_sv : Nat → AV
  | 0 => .inr (.inr (some 1000002))
  | _ => .inl 0
def am_getS (f k : Nat) (ls : AL) (st : List AV) (h : AH) : AR := match st with
  | .inr (.inr (some a)) :: st => am_g (a = 1000001) (some (k + 1, ls, am_sv f :: st, h))
  | _ => none
def am_aldS (k : Nat) (ls : AL) (st : List AV) (h : AH) : AR := match st with
  | .inl j :: .inr (.inr (some a)) :: st => am_g (a = 1000002 ∧ 0 ≤ j ∧ j < 9) (some (k + 1, ls, .inl (txI j.toNat) :: st, h))
  | _ => none
def am_lenS (k : Nat) (ls : AL) (st : List AV) (h : AH) : AR := match st with
  | .inr (.inr (some a)) :: st => am_g (a = 1000002) (some (k + 1, ls, .inl 9 :: st, h))
  | _ => none
/-- one instruction; ns: its numbers (places of locals, targets, tags) -/
def stp (i : Instr) (z : Int) (ns : List Nat) (k : Nat) (ls : AL) (st : List AV) (h : AH) : AR := match i with
  | .iconst _ | .bipush _ | .sipush _ | .ldc_w _ => some (k + 1, ls, .inl z :: st, h)
  | .ldc _ => some (k + 1, ls, (match ns with | [] => .inl z | _ => .inr (.inr (some 1000001))) :: st, h)
  | .getstatic _ => some (k + 1, ls, .inl 1 :: st, h)
  | .lconst _ | .ldc2_w _ => some (k + 1, ls, .inr (.inl z) :: st, h)
  | .iload _ | .iload_n _ => am_ldI (ns.getD 0 0) k ls st h
  | .lload _ | .lload_n _ => am_ldL (ns.getD 0 0) k ls st h
  | .aload _ | .aload_n _ => am_ldA (ns.getD 0 0) k ls st h
  | .istore _ | .istore_n _ => am_stI (ns.getD 0 0) k ls st h
  | .lstore _ | .lstore_n _ => am_stL (ns.getD 0 0) k ls st h
  | .astore _ | .astore_n _ => am_stA (ns.getD 0 0) k ls st h
  | .iinc _ _ => match ls[ns.getD 0 0]? with
    | some (some (.inl x)) => some (k + 1, am_st1 ls (ns.getD 0 0) (.inl (w32 (x + z))), st, h)
    | _ => none
  | .pop => match st with
    | v :: st => am_g (am_cat v = 1) (some (k + 1, ls, st, h))
    | _ => none
  | .pop2 => match st with
    | .inr (.inl _) :: st => some (k + 1, ls, st, h)
    | _ => none
  | .dup => match st with
    | v :: st => am_g (am_cat v = 1) (some (k + 1, ls, v :: v :: st, h))
    | _ => none
  | .dup2 => match st with
    | v :: w :: st => am_g (am_cat v = 1 ∧ am_cat w = 1) (some (k + 1, ls, v :: w :: v :: w :: st, h))
    | _ => none
  | .iadd => am_bin (fun a b => w32 (a + b)) k ls st h
  | .isub => am_bin (fun a b => w32 (a - b)) k ls st h
  | .imul => am_bin (fun a b => w32 (a * b)) k ls st h
  | .idiv => am_div (fun a b => w32 (Int.tdiv a b)) k ls st h
  | .irem => am_div (fun a b => w32 (a - Int.tdiv a b * b)) k ls st h
  | .iand => am_bin (fun a b => (Int32.ofInt a &&& Int32.ofInt b).toInt) k ls st h
  | .ior => am_bin (fun a b => (Int32.ofInt a ||| Int32.ofInt b).toInt) k ls st h
  | .ixor => am_bin (fun a b => (Int32.ofInt a ^^^ Int32.ofInt b).toInt) k ls st h
  | .ishl => am_bin (fun a b => (Int32.ofInt a <<< (Int32.ofInt b &&& 31)).toInt) k ls st h
  | .ishr => am_bin (fun a b => (Int32.ofInt a >>> (Int32.ofInt b &&& 31)).toInt) k ls st h
  | .iushr => am_bin (fun a b => (((Int32.ofInt a).toUInt32 >>> ((Int32.ofInt b).toUInt32 &&& Int32.toUInt32 31)).toInt32).toInt) k ls st h
  | .ladd => am_binL (fun a b => w64 (a + b)) k ls st h
  | .lsub => am_binL (fun a b => w64 (a - b)) k ls st h
  | .lmul => am_binL (fun a b => w64 (a * b)) k ls st h
  | .ldiv => am_divL (fun a b => w64 (Int.tdiv a b)) k ls st h
  | .lrem => am_divL (fun a b => w64 (a - Int.tdiv a b * b)) k ls st h
  | .land => am_binL (fun a b => (Int64.ofInt a &&& Int64.ofInt b).toInt) k ls st h
  | .lor => am_binL (fun a b => (Int64.ofInt a ||| Int64.ofInt b).toInt) k ls st h
  | .lxor => am_binL (fun a b => (Int64.ofInt a ^^^ Int64.ofInt b).toInt) k ls st h
  | .lshl => am_shL (fun a b => (Int64.ofInt a <<< ((Int32.ofInt b).toInt64 &&& 63)).toInt) k ls st h
  | .lshr => am_shL (fun a b => (Int64.ofInt a >>> ((Int32.ofInt b).toInt64 &&& 63)).toInt) k ls st h
  | .lushr => am_shL (fun a b => (((Int64.ofInt a).toUInt64 >>> ((Int32.ofInt b).toInt64.toUInt64 &&& Int64.toUInt64 63)).toInt64).toInt) k ls st h
  | .lneg => match st with
    | .inr (.inl a) :: st => some (k + 1, ls, .inr (.inl (w64 (-a))) :: st, h)
    | _ => none
  | .lcmp => match st with
    | .inr (.inl b) :: .inr (.inl a) :: st => some (k + 1, ls, .inl (if b < a then 1 else if a < b then -1 else 0) :: st, h)
    | _ => none
  | .i2l => match st with
    | .inl a :: st => some (k + 1, ls, .inr (.inl a) :: st, h)
    | _ => none
  | .l2i => match st with
    | .inr (.inl a) :: st => some (k + 1, ls, .inl (w32 a) :: st, h)
    | _ => none
  | .i2c => match st with
    | .inl a :: st => some (k + 1, ls, .inl (a % 65536) :: st, h)
    | _ => none
  | .i2b => match st with
    | .inl a :: st => some (k + 1, ls, .inl (w8 a) :: st, h)
    | _ => none
  | .ifCond c _ => match st with
    | .inl a :: st => am_br c a 0 (ns.getD 0 0) k ls st h
    | _ => none
  | .if_icmp c _ => match st with
    | .inl b :: .inl a :: st => am_br c a b (ns.getD 0 0) k ls st h
    | _ => none
  | .goto _ => some (ns.getD 0 0, ls, st, h)
  | .tableswitch _ lo _ _ => match st with
    | .inl x :: st => am_sw x ls st h (ns.getD 0 0) (am_zip lo (ns.drop 1))
    | _ => none
  | .lookupswitch _ ps => match st with
    | .inl x :: st => am_sw x ls st h (ns.getD 0 0) (am_zip2 ps.toList (ns.drop 1))
    | _ => none
  | .new _ => am_newo (ns.getD 0 0) (ns.getD 1 0) k ls st h
  | .newarray _ | .anewarray _ => am_newa (ns.getD 0 0) k ls st h
  | .multianewarray _ _ => am_newm (ns.getD 0 0) (ns.getD 1 0) k ls st h
  | .iaload => am_ald 100 k ls st h
  | .baload => if ns.getD 0 0 = 300 then am_aldS k ls st h else am_ald (ns.getD 0 0) k ls st h
  | .laload => am_aldL k ls st h
  | .aaload => am_aldA (ns.getD 0 0) k ls st h
  | .iastore => am_ast 100 (fun v => v) k ls st h
  | .bastore => match ns.getD 0 0 with
    | 101 => am_ast 101 w8 k ls st h
    | _ => am_astZ k ls st h
  | .lastore => am_astL k ls st h
  | .aastore => am_astA (ns.getD 0 0) (ns.getD 1 0) k ls st h
  | .arraylength => if ns.getD 0 0 = 300 then am_lenS k ls st h else am_len k ls st h
  | .getfield _ => if ns.getD 0 0 = 300 then am_getS (ns.getD 1 0) k ls st h else am_get (ns.getD 0 0) (ns.getD 1 0) (ns.getD 2 0) k ls st h
  | .putfield _ => am_put (ns.getD 0 0) (ns.getD 1 0) (ns.getD 2 0) k ls st h
  | .invokespecial _ => match st with
    | .inr (.inr (some _)) :: st => am_g (am_cats st ≤ 8) (some (k + 1, ls, st, h))
    | _ => none
  | _ => none
/-- kinds: 0 an instruction of stp, 1 a call (numbers: the method, how many arguments, 0 or 1 and the tag of what it is called on), 2 a return -/
def am_kind (i : Instr) (ns : List Nat) : Nat := match i with
  | .invokevirtual _ | .invokestatic _ => 1
  | .invokespecial _ => if ns.length = 0 then 0 else 1
  | .ireturn | .lreturn | .return_ => 2
  | _ => 0
def am_ent : Nat → List AV → AL
  | 0, _ => []
  | n + 1, [] => none :: am_ent n []
  | n + 1, .inr (.inl z) :: as => some (.inr (.inl z)) :: (match n with
    | 0 => []
    | n + 1 => none :: am_ent n as)
  | n + 1, a :: as => some a :: am_ent n as
/-- an answer: ns: 0 a number, 1 a boolean -/
def am_ret (i : Instr) (ns : List Nat) (st : List AV) : Option (Option AV) := match i, st with
  | .ireturn, [.inl z] => am_g (ns.getD 0 0 = 0 ∨ z = 0 ∨ z = 1) (some (some (.inl z)))
  | .lreturn, [.inr (.inl z)] => some (some (.inr (.inl z)))
  | .return_, [] => some none
  | _, _ => none
def am_rcv (mx : Nat) (ns : List Nat) (st : List AV) (h : AH) : Bool := decide (am_cats (st.take (ns.getD 1 0)) ≤ mx) && decide (am_cats (st.drop (ns.getD 1 0)) ≤ 8) && decide (ns.getD 1 0 ≤ st.length) && (decide (ns.getD 2 0 = 0) || (match st[ns.getD 1 0 - 1]? with
  | some (.inr (.inr (some a))) => if ns.getD 2 0 = 2 then decide (a = 1000001) else decide ((h.2.2.1 a).1 = ns.getD 3 0) && decide (a < h.1)
  | _ => false))
section
variable (code : Nat → List Ins) (mxl : Nat → Nat)
def ev : Nat → Nat → Nat → Nat → AL → List AV → AH → Option (Option AV × AH)
  | 0, _, _, _, _, _, _ => none
  | n + 1, d, m, k, ls, st, h => match (code m)[k]? with
    | none => none
    | some (i, z, ns) =>
      if am_kind i ns = 0 then (match stp i z ns k ls st h with
        | none => none
        | some (k', ls', st', h') => ev n d m k' ls' st' h')
      else if am_kind i ns = 1 then (match d with
        | 0 => none
        | d + 1 => match am_rcv (mxl (ns.getD 0 0)) ns st h with
          | false => none
          | true => match ev n d (ns.getD 0 0) 0 (am_ent (mxl (ns.getD 0 0)) (st.take (ns.getD 1 0)).reverse) [] h with
            | none => none
            | some (v, h') => if h.1 ≤ h'.1 ∧ h.2.1 ≤ h'.2.1 then ev n (d + 1) m (k + 1) ls (v.toList ++ st.drop (ns.getD 1 0)) h' else none)
      else (match am_ret i ns st with
        | none => none
        | some v => some (v, h))
def wp (d m k : Nat) (ls : AL) (st : List AV) (h : AH) (Q : Option AV → AH → Prop) : Prop := ∃ n v h', ev code mxl n d m k ls st h = some (v, h') ∧ Q v h'
def wpc (d m : Nat) (as : List AV) (h : AH) (Q : Option AV → AH → Prop) : Prop := wp code mxl d m 0 (am_ent (mxl m) as) [] h Q
theorem ev_0 {n d m k : Nat} {ls : AL} {st : List AV} {h : AH} {i : Instr} {z : Int} {ns : List Nat} (hf : (code m)[k]? = some (i, z, ns)) (hk : am_kind i ns = 0) : ev code mxl (n + 1) d m k ls st h = (match stp i z ns k ls st h with
        | none => none
        | some (k', ls', st', h') => ev code mxl n d m k' ls' st' h') := by
  rw [ev, hf]
  exact if_pos hk
theorem ev_1 {n d m k : Nat} {ls : AL} {st : List AV} {h : AH} {i : Instr} {z : Int} {ns : List Nat} (hf : (code m)[k]? = some (i, z, ns)) (hk : am_kind i ns = 1) : ev code mxl (n + 1) (d + 1) m k ls st h = (match am_rcv (mxl (ns.getD 0 0)) ns st h with
          | false => none
          | true => match ev code mxl n d (ns.getD 0 0) 0 (am_ent (mxl (ns.getD 0 0)) (st.take (ns.getD 1 0)).reverse) [] h with
            | none => none
            | some (v, h') => if h.1 ≤ h'.1 ∧ h.2.1 ≤ h'.2.1 then ev code mxl n (d + 1) m (k + 1) ls (v.toList ++ st.drop (ns.getD 1 0)) h' else none) := by
  rw [ev, hf]
  exact (if_neg (by rw [hk]; decide)).trans (if_pos hk)
theorem ev_10 {n m k : Nat} {ls : AL} {st : List AV} {h : AH} {i : Instr} {z : Int} {ns : List Nat} (hf : (code m)[k]? = some (i, z, ns)) (hk : am_kind i ns = 1) : ev code mxl (n + 1) 0 m k ls st h = none := by
  rw [ev, hf]
  exact (if_neg (by rw [hk]; decide)).trans (if_pos hk)
theorem ev_2 {n d m k : Nat} {ls : AL} {st : List AV} {h : AH} {i : Instr} {z : Int} {ns : List Nat} (hf : (code m)[k]? = some (i, z, ns)) (h0 : ¬ am_kind i ns = 0) (h1 : ¬ am_kind i ns = 1) : ev code mxl (n + 1) d m k ls st h = (match am_ret i ns st with
        | none => none
        | some v => some (v, h)) := by
  rw [ev, hf]
  exact (if_neg h0).trans (if_neg h1)
theorem ev_n {n d m k : Nat} {ls : AL} {st : List AV} {h : AH} (hf : (code m)[k]? = none) : ev code mxl (n + 1) d m k ls st h = none := by
  rw [ev, hf]
theorem ev_mono : ∀ (n d m k : Nat) (ls : AL) (st : List AV) (h : AH) (r : Option AV × AH), ev code mxl n d m k ls st h = some r → ∀ n', n ≤ n' → ev code mxl n' d m k ls st h = some r := by
  intro n
  induction n with
  | zero =>
    intro d m k ls st h r e
    cases e
  | succ n ih =>
    intro d m k ls st h r e n' hn
    obtain ⟨n', rfl⟩ : ∃ q, n' = q + 1 := ⟨n' - 1, by omega⟩
    have hn : n ≤ n' := by omega
    cases hf : (code m)[k]? with
    | none => rw [ev_n code mxl hf] at e; cases e
    | some q =>
      obtain ⟨i, z, ns⟩ := q
      by_cases h0 : am_kind i ns = 0
      · rw [ev_0 code mxl hf h0] at e ⊢
        cases hs : stp i z ns k ls st h with
        | none => rw [hs] at e; cases e
        | some q =>
          obtain ⟨k', ls', st', h'⟩ := q
          rw [hs] at e
          exact ih _ _ _ _ _ _ _ e n' hn
      · by_cases h1 : am_kind i ns = 1
        · cases d with
          | zero => rw [ev_10 code mxl hf h1] at e; cases e
          | succ d =>
            rw [ev_1 code mxl hf h1] at e ⊢
            cases hr : am_rcv (mxl (ns.getD 0 0)) ns st h with
            | false => rw [hr] at e; cases e
            | true =>
              rw [hr] at e
              dsimp only at e ⊢
              cases hc : ev code mxl n d (ns.getD 0 0) 0 (am_ent (mxl (ns.getD 0 0)) (st.take (ns.getD 1 0)).reverse) [] h with
              | none => rw [hc] at e; cases e
              | some q =>
                obtain ⟨v, h'⟩ := q
                rw [hc] at e
                rw [ih _ _ _ _ _ _ _ hc n' hn]
                dsimp only at e ⊢
                split at e
                · rename_i h9
                  rw [if_pos h9]
                  exact ih _ _ _ _ _ _ _ e n' hn
                · cases e
        · rw [ev_2 code mxl hf h0 h1] at e ⊢
          exact e
/-- what comes behind an instruction -/
def nxt (d m : Nat) (o : AR) (Q : Option AV → AH → Prop) : Prop := match o with
  | none => False
  | some (k, ls, st, h) => wp code mxl d m k ls st h Q
theorem wp_stp {d m k : Nat} {ls : AL} {st : List AV} {h : AH} {Q : Option AV → AH → Prop} {i : Instr} {z : Int} {ns : List Nat} (hf : (code m)[k]? = some (i, z, ns)) (hk : am_kind i ns = 0) : wp code mxl d m k ls st h Q ↔ nxt code mxl d m (stp i z ns k ls st h) Q := by
  constructor
  · rintro ⟨n, v, h', e, hq⟩
    cases n with
    | zero => cases e
    | succ n =>
      rw [ev_0 code mxl hf hk] at e
      cases hs : stp i z ns k ls st h with
      | none => rw [hs] at e; cases e
      | some q =>
        obtain ⟨k', ls', st', h2⟩ := q
        rw [hs] at e
        exact ⟨n, v, h', e, hq⟩
  · intro hn
    cases hs : stp i z ns k ls st h with
    | none => rw [hs] at hn; cases hn
    | some q =>
      obtain ⟨k', ls', st', h2⟩ := q
      rw [hs] at hn
      obtain ⟨n, v, h', e, hq⟩ := hn
      refine ⟨n + 1, v, h', ?_, hq⟩
      rw [ev_0 code mxl hf hk, hs]
      exact e
theorem wp_ret {d m k : Nat} {ls : AL} {st : List AV} {h : AH} {Q : Option AV → AH → Prop} {i : Instr} {z : Int} {ns : List Nat} (hf : (code m)[k]? = some (i, z, ns)) (hk : am_kind i ns = 2) : wp code mxl d m k ls st h Q ↔ ∃ v, am_ret i ns st = some v ∧ Q v h := by
  have h0 : ¬ am_kind i ns = 0 := by rw [hk]; decide
  have h1 : ¬ am_kind i ns = 1 := by rw [hk]; decide
  constructor
  · rintro ⟨n, v, h', e, hq⟩
    cases n with
    | zero => cases e
    | succ n =>
      rw [ev_2 code mxl hf h0 h1] at e
      cases hs : am_ret i ns st with
      | none => rw [hs] at e; cases e
      | some q =>
        rw [hs] at e
        cases e
        exact ⟨_, rfl, hq⟩
  · rintro ⟨v, hv, hq⟩
    refine ⟨1, v, h, ?_, hq⟩
    rw [ev_2 code mxl hf h0 h1, hv]
theorem wp_call {d m k : Nat} {ls : AL} {st : List AV} {h : AH} {Q : Option AV → AH → Prop} {i : Instr} {z : Int} {ns : List Nat} (hf : (code m)[k]? = some (i, z, ns)) (hk : am_kind i ns = 1) : wp code mxl (d + 1) m k ls st h Q ↔ am_rcv (mxl (ns.getD 0 0)) ns st h = true ∧ wpc code mxl d (ns.getD 0 0) (st.take (ns.getD 1 0)).reverse h (fun v h' => (h.1 ≤ h'.1 ∧ h.2.1 ≤ h'.2.1) ∧ wp code mxl (d + 1) m (k + 1) ls (v.toList ++ st.drop (ns.getD 1 0)) h' Q) := by
  constructor
  · rintro ⟨n, v, h', e, hq⟩
    cases n with
    | zero => cases e
    | succ n =>
      rw [ev_1 code mxl hf hk] at e
      cases hr : am_rcv (mxl (ns.getD 0 0)) ns st h with
      | false => rw [hr] at e; cases e
      | true =>
        rw [hr] at e
        dsimp only at e
        cases hc : ev code mxl n d (ns.getD 0 0) 0 (am_ent (mxl (ns.getD 0 0)) (st.take (ns.getD 1 0)).reverse) [] h with
        | none => rw [hc] at e; cases e
        | some q =>
          obtain ⟨v1, h1⟩ := q
          rw [hc] at e
          dsimp only at e
          split at e
          · rename_i h9
            exact ⟨rfl, n, v1, h1, hc, h9, n, v, h', e, hq⟩
          · cases e
  · rintro ⟨hr, n1, v1, h1, e1, h9, n2, v, h', e2, hq⟩
    refine ⟨max n1 n2 + 1, v, h', ?_, hq⟩
    rw [ev_1 code mxl hf hk, hr]
    dsimp only
    rw [ev_mono code mxl _ _ _ _ _ _ _ _ e1 (max n1 n2) (Nat.le_max_left _ _)]
    dsimp only
    rw [if_pos h9]
    exact ev_mono code mxl _ _ _ _ _ _ _ _ e2 (max n1 n2) (Nat.le_max_right _ _)
theorem wp_mono {d m k : Nat} {ls : AL} {st : List AV} {h : AH} {Q Q' : Option AV → AH → Prop} (w : wp code mxl d m k ls st h Q) (hq : ∀ v h', Q v h' → Q' v h') : wp code mxl d m k ls st h Q' := by
  obtain ⟨n, v, h', e, q⟩ := w
  exact ⟨n, v, h', e, hq _ _ q⟩
end
theorem wide_0 : True := (fun _ => trivial) @Jvm.Stand.multianewarray2F
