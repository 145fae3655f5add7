/-! the contracts that are shown by hand -/
theorem con_add : conS cn81 := sorry
theorem con_givesBy : conS cn142 := sorry
theorem con_law : conS cn178 := sorry
theorem con_worse : conS cn179 := sorry
