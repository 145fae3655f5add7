def hB (L : Nat) : BH := (0, 0, (fun a => if a = 1000000 then (100, L) else if a = 1000001 then (999, 0) else (0, 0)), (fun a j => if a = 1000000 then (if j < 6 then (j, 1, 0, 0) else ck 0) else ck 0), (fun _ _ => 0), (fun _ _ => none))
def lwB : BL := [some (.inr (.inr (some 1000000))), none, none, none]
def GB : GM := List.replicate 6 (-2147483648, 2147483647)
def okB (n L : Nat) : Bool := match sev n 1000 0 0 lwB [] (hB L) GB with
  | some outs => outs.all (fun o => (match o.2.1 with
    | some (.inl a) => decide (kc a = some 1)
    | _ => false) && decide (o.2.2.1 ≤ 600000) && decide (o.2.2.2.1 ≤ 7302250))
  | none => false
set_option maxRecDepth 100000 in
theorem tst1 : okB 3000 0 = true := by decide +kernel
