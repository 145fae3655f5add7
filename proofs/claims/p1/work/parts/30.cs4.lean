/-! part 27: cases by evaluation -/
set_option maxRecDepth 100000 in
theorem okC26 : okC 20000 (ck 26) = true := by decide +kernel
set_option maxRecDepth 100000 in
theorem okC27 : okC 20000 (ck 27) = true := by decide +kernel
set_option maxRecDepth 100000 in
theorem okC28 : okC 20000 (ck 28) = true := by decide +kernel
set_option maxRecDepth 100000 in
theorem okCa : okC 20000 (0, 0, -2147483648, -1) = true := by decide +kernel
set_option maxRecDepth 100000 in
theorem okCb : okC 20000 (0, 0, 29, 2147483647) = true := by decide +kernel
set_option maxRecDepth 100000 in
theorem okB0 : okB 3000 0 = true := by decide +kernel
set_option maxRecDepth 100000 in
theorem okB1 : okB 3000 1 = true := by decide +kernel
set_option maxRecDepth 100000 in
theorem okB2 : okB 3000 2 = true := by decide +kernel
set_option maxRecDepth 100000 in
theorem okB3 : okB 3000 3 = true := by decide +kernel
set_option maxRecDepth 100000 in
theorem okB4 : okB 3000 4 = true := by decide +kernel
set_option maxRecDepth 100000 in
theorem okB5 : okB 3000 5 = true := by decide +kernel
