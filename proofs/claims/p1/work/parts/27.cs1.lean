/-! part 24: cases by evaluation -/
set_option maxRecDepth 100000 in
theorem okC7 : okC 20000 (ck 7) = true := by decide +kernel
set_option maxRecDepth 100000 in
theorem okC8 : okC 20000 (ck 8) = true := by decide +kernel
set_option maxRecDepth 100000 in
theorem okC9 : okC 20000 (ck 9) = true := by decide +kernel
set_option maxRecDepth 100000 in
theorem okC10 : okC 20000 (ck 10) = true := by decide +kernel
set_option maxRecDepth 100000 in
theorem okC11 : okC 20000 (ck 11) = true := by decide +kernel
set_option maxRecDepth 100000 in
theorem okC12 : okC 20000 (ck 12) = true := by decide +kernel
set_option maxRecDepth 100000 in
theorem okC13 : okC 20000 (ck 13) = true := by decide +kernel
