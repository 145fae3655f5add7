/-! the engine, 6: reading and writing -/
/-- bounds of the number at a place -/
def bI (a j : Nat) : Int × Int := (tI.getD a []).getD (if 100 ≤ (tT.getD a (0, 0)).1 then 0 else j) (-2147483648, 2147483647)
def bR (a j : Nat) : List Nat := (tR.getD a []).getD j []
abbrev MO : Type := List (Nat × Option Nat)
def inM (M : MO) (a j : Nat) : Bool := M.any (fun e => decide (e.1 = a) && (match e.2 with
  | none => true
  | some q => decide (q = j)))
/-- the heap as the tables have it -/
def eH (g : AH) : Prop := g.1 = nO ∧ (∀ a, a < nO → g.2.2.1 a = tT.getD a (0, 0)) ∧ (∀ a j, a < nO → j < (tT.getD a (0, 0)).2 → (bI a j).1 ≤ g.2.2.2.1 a j ∧ g.2.2.2.1 a j ≤ (bI a j).2) ∧ (∀ a j, a < nO → j < (tT.getD a (0, 0)).2 → -9223372036854775808 ≤ g.2.2.2.2.1 a j ∧ g.2.2.2.2.1 a j ≤ 9223372036854775807) ∧ (∀ a j, a < nO → j < (tT.getD a (0, 0)).2 → bR a j ≠ [] → ∃ i ∈ bR a j, g.2.2.2.2.2 a j = some i) ∧ eW g
/-- nothing else has changed -/
def eM (M : MO) (g0 g : AH) : Prop := g.1 = g0.1 ∧ g.2.1 = g0.2.1 ∧ g.2.2.1 = g0.2.2.1 ∧ ∀ a j, inM M a j = false → g.2.2.2.1 a j = g0.2.2.2.1 a j ∧ g.2.2.2.2.1 a j = g0.2.2.2.2.1 a j ∧ g.2.2.2.2.2 a j = g0.2.2.2.2.2 a j
def eIds (y : EY) (r : AE) : List Nat := if r.1 = 0 then (if 0 ≤ r.2 then [r.2.toNat] else []) else if r.2 = 0 then (match y.1[r.1]? with
  | some q => q.2.2
  | none => []) else []
/-- the ids are of that kind and the place lies in them -/
def okR (y : EY) (r j : AE) (tag : Nat) : Bool := decide (eIds y r ≠ []) && decide (0 ≤ (bd y j).1) && (eIds y r).all (fun i => decide (i < nO) && decide ((tT.getD i (0, 0)).1 = tag) && decide ((bd y j).2 < (tT.getD i (0, 0)).2))
def aeB (a b : AE) : Bool := decide (a.1 = b.1) && decide (a.2 = b.2)
def findO (r j : AE) : EO → Option EV
  | [] => none
  | e :: l => if aeB e.1.1 r && aeB e.1.2 j then some e.2 else findO r j l
def puO (y : EY) (e : (AE × AE) × EV) : EY := (y.1, e :: y.2.1, y.2.2)
def joB : List (Int × Int) → Int × Int
  | [] => (-2147483648, 2147483647)
  | [p] => p
  | p :: l => (min p.1 (joB l).1, max p.2 (joB l).2)
def rgN (lo hi : Int) : List Nat := (List.range (hi - lo + 1).toNat).map (fun q => q + lo.toNat)
/-- a number at a place: kinds 0 a number, 1 a long, 2 a reference -/
def erd (kind tag : Nat) (y : EY) (r j : AE) : Option (EV × EY) := match okR y r j tag with
  | false => none
  | true => match findO r j y.2.1 with
    | some v => (match kind, v with
      | 0, .inl _ => some (v, y)
      | 1, .inr (.inl _) => some (v, y)
      | 2, .inr (.inr _) => some (v, y)
      | _, _ => none)
    | none => match kind with
      | 0 => if 100 ≤ tag ∨ (bd y j).1 = (bd y j).2 then some (.inl (y.1.length, 0), puO (frs y (joB ((eIds y r).map (fun i => bI i (bd y j).1.toNat))).1 (joB ((eIds y r).map (fun i => bI i (bd y j).1.toNat))).2 []) ((r, j), .inl (y.1.length, 0))) else none
      | 1 => some (.inr (.inl (y.1.length, 0)), puO (frs y (-9223372036854775808) 9223372036854775807 []) ((r, j), .inr (.inl (y.1.length, 0))))
      | 2 => if ((eIds y r).all (fun i => (rgN (bd y j).1 (bd y j).2).all (fun q => decide (bR i q ≠ [])))) then (match ((eIds y r).flatMap (fun i => (rgN (bd y j).1 (bd y j).2).flatMap (fun q => bR i q))).eraseDups with
        | [] => none
        | [i] => some (.inr (.inr (0, (i : Int))), puO y ((r, j), .inr (.inr (0, (i : Int)))))
        | i :: l => some (.inr (.inr (y.1.length, 0)), puO (frs y 0 1000 (i :: l)) ((r, j), .inr (.inr (y.1.length, 0))))) else none
      | _ => none
