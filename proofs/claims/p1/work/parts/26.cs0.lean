/-! part 23: cases by evaluation -/
set_option maxRecDepth 100000 in
theorem okC0 : okC 20000 (ck 0) = true := by decide +kernel
set_option maxRecDepth 100000 in
theorem okC1 : okC 20000 (ck 1) = true := by decide +kernel
set_option maxRecDepth 100000 in
theorem okC2 : okC 20000 (ck 2) = true := by decide +kernel
set_option maxRecDepth 100000 in
theorem okC3 : okC 20000 (ck 3) = true := by decide +kernel
set_option maxRecDepth 100000 in
theorem okC4 : okC 20000 (ck 4) = true := by decide +kernel
set_option maxRecDepth 100000 in
theorem okC5 : okC 20000 (ck 5) = true := by decide +kernel
set_option maxRecDepth 100000 in
theorem okC6 : okC 20000 (ck 6) = true := by decide +kernel
