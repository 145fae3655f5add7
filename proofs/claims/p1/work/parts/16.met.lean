theorem metAll (mi : Nat) (h : mi < 218) : metC mi = true := sorry
