/-! the engine, 17: the walk of a method -/
/-- a contract: method, entry, answer, cells that may change, depth, cuts -/
abbrev CON : Type := Nat × CUT × Option EP × MO × Nat × List CUT
abbrev FR : Type := Nat × Nat × EL × List EV
abbrev AF : Type := Nat × Nat × AL × List AV
def em_ent : Nat → List EV → EL
  | 0, _ => []
  | n + 1, [] => none :: em_ent n []
  | n + 1, .inr (.inl z) :: as => some (.inr (.inl z)) :: (match n with
    | 0 => []
    | n + 1 => none :: em_ent n as)
  | n + 1, a :: as => some a :: em_ent n as
def em_ret (i : Instr) (ns : List Nat) (st : List EV) (y : EY) : Option (Option EV) := match i, st with
  | .ireturn, [.inl z] => if decide (ns.getD 0 0 = 0) || b01 y z then some (some (.inl z)) else none
  | .lreturn, [.inr (.inl z)] => some (some (.inr (.inl z)))
  | .return_, [] => some none
  | _, _ => none
def em_rcv (mx : Nat) (ns : List Nat) (st : List EV) (y : EY) : Bool := decide (em_cats (st.take (ns.getD 1 0)) ≤ mx) && (decide (em_cats (st.drop (ns.getD 1 0)) ≤ 8) && (decide (ns.getD 1 0 ≤ st.length) && (decide (ns.getD 2 0 = 0) || (match st[ns.getD 1 0 - 1]? with
  | some (.inr (.inr a)) => if ns.getD 2 0 = 2 then aeB a (0, 1000001) else decide (eIds y a ≠ []) && (eIds y a).all (fun i => decide (i < nO) && decide ((tT.getD i (0, 0)).1 = ns.getD 3 0))
  | _ => false))))
/-- the script -/
def esc (i : Instr) (ns : List Nat) (k : Nat) (ls : EL) (st : List EV) (y : EY) : ER := match i with
  | .iaload => match st with
    | .inl j :: .inr (.inr r) :: st => if aeB r (0, 1000000) && (decide (0 ≤ (bd y j).1) && leq y (j.1, j.2 + 1) (1, 0)) then some (k + 1, ls, .inl (y.1.length, 0) :: st, frs y (-2147483648) 2147483647 []) else none
    | _ => none
  | .arraylength => match st with
    | .inr (.inr r) :: st => if aeB r (0, 1000000) && decide (ns.getD 0 0 ≠ 300) then some (k + 1, ls, .inl (1, 0) :: st, y) else none
    | _ => none
  | _ => none
def offM (y : EY) (M : MO) (e : (AE × AE) × EV) : Bool := decide (eIds y e.1.1 ≠ []) && (eIds y e.1.1).all (fun i => M.all (fun q => decide (q.1 ≠ i) || (match q.2 with
  | none => false
  | some s => decide (0 ≤ (bd y e.1.2).1) && (decide ((bd y e.1.2).2 < (s : Nat)) || decide (((s : Nat) : Int) < (bd y e.1.2).1)))))
def kilM (M : MO) (y : EY) : EY := (y.1, y.2.1.filter (offM y M), y.2.2)
def subM (M' M : MO) : Bool := M'.all (fun q => M.any (fun e => decide (e.1 = q.1) && (match e.2 with
  | none => true
  | some s => match q.2 with
    | some s' => decide (s = s')
    | none => false)))
def fitR (y : EY) (p : Option EP) (v : Option EV) : Bool := match p, v with
  | none, none => true
  | some p, some v => fitP y p v
  | _, _ => false
/-- behind a call by contract -/
def ansR (C : CON) (y : EY) : List EV × EY := match C.2.2.1 with
  | none => ([], kilM C.2.2.2.1 y)
  | some p => ([(iniV p (kilM C.2.2.2.1 y)).1], (iniV p (kilM C.2.2.2.1 y)).2)
section
variable (K : Nat → List CON) (C : CON) (old : Option MS)
def walk : Nat → List FR → Nat → Nat → EL → List EV → EY → Bool → Bool
  | 0, _, _, _, _, _, _, _ => false
  | n + 1, fs, m, k, ls, st, y, first =>
    if first = false ∧ fs.isEmpty = true ∧ m = C.1 ∧ C.2.2.2.2.2.any (fun c => decide (c.1 = k)) = true then
      st.isEmpty && C.2.2.2.2.2.any (fun c => decide (c.1 = k) && (fitU y ls c && decC y old ls c))
    else match (codeT m)[k]? with
    | none => false
    | some (i, z, ns) =>
      if am_kind i ns = 0 then (match ebr i ns k st y with
        | some (l, st') => l.all (fun q => walk n fs m q.2 ls st' q.1 false)
        | none => match esc i ns k ls st y with
          | some q => walk n fs m q.1 q.2.1 q.2.2.1 q.2.2.2 false
          | none => match est i z ns k C.2.2.2.1 ls st y with
            | some q => walk n fs m q.1 q.2.1 q.2.2.1 q.2.2.2 false
            | none => false)
      else if am_kind i ns = 1 then (if em_rcv (mX (ns.getD 0 0)) ns st y then (match (K (ns.getD 0 0)).find? (fun c => fitU y (em_ent (mX (ns.getD 0 0)) (st.take (ns.getD 1 0)).reverse) c.2.1) with
        | some c => decide (c.2.2.2.2.1 + fs.length + 1 ≤ C.2.2.2.2.1) && (subM c.2.2.2.1 C.2.2.2.1 && walk n fs m (k + 1) ls ((ansR c y).1 ++ st.drop (ns.getD 1 0)) (ansR c y).2 false)
        | none => decide (fs.length + 1 ≤ C.2.2.2.2.1) && walk n ((m, k, ls, st.drop (ns.getD 1 0)) :: fs) (ns.getD 0 0) 0 (em_ent (mX (ns.getD 0 0)) (st.take (ns.getD 1 0)).reverse) [] y false) else false)
      else (match em_ret i ns st y with
        | none => false
        | some v => match fs with
          | [] => fitR y C.2.2.1 v
          | f :: fs => walk n fs f.1 (f.2.1 + 1) f.2.2.1 (v.toList ++ f.2.2.2) y false)
end
/-- a cut's own walk -/
def okU (K : Nat → List CON) (C : CON) (n : Nat) (c : CUT) : Bool := match iniU c with
  | none => false
  | some q => match mcL q.1 c.2.2.2.2.2 with
    | none => false
    | some os => walk K C (some os) n [] C.1 c.1 q.1 [] q.2 true
def okE (K : Nat → List CON) (C : CON) (n : Nat) : Bool := match iniU C.2.1 with
  | none => false
  | some q => decide (C.2.1.1 = 0) && walk K C none n [] C.1 0 q.1 [] q.2 true
def idsM (M : MO) : Bool := M.all (fun q => decide (q.1 < nO))
/-- a contract's check -/
def okC (K : Nat → List CON) (n : Nat) (C : CON) : Bool := idsM C.2.2.2.1 && (okE K C n && C.2.2.2.2.2.all (okU K C n))
