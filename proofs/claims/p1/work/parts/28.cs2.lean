/-! part 25: cases by evaluation -/
set_option maxRecDepth 100000 in
theorem okC14 : okC 20000 (ck 14) = true := by decide +kernel
set_option maxRecDepth 100000 in
theorem okC16 : okC 20000 (ck 16) = true := by decide +kernel
set_option maxRecDepth 100000 in
theorem okC17 : okC 20000 (ck 17) = true := by decide +kernel
set_option maxRecDepth 100000 in
theorem okC18 : okC 20000 (ck 18) = true := by decide +kernel
set_option maxRecDepth 100000 in
theorem okC19 : okC 20000 (ck 19) = true := by decide +kernel
set_option maxRecDepth 100000 in
theorem okC21 : okC 20000 (ck 21) = true := by decide +kernel
