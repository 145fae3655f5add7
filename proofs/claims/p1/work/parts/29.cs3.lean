/-! part 26: cases by evaluation -/
set_option maxRecDepth 100000 in
theorem okC15 : okC 20000 (ck 15) = true := by decide +kernel
set_option maxRecDepth 100000 in
theorem okC20 : okC 20000 (ck 20) = true := by decide +kernel
set_option maxRecDepth 100000 in
theorem okC22 : okC 20000 (ck 22) = true := by decide +kernel
set_option maxRecDepth 100000 in
theorem okC23 : okC 20000 (ck 23) = true := by decide +kernel
set_option maxRecDepth 100000 in
theorem okC24 : okC 20000 (ck 24) = true := by decide +kernel
set_option maxRecDepth 100000 in
theorem okC25 : okC 20000 (ck 25) = true := by decide +kernel
