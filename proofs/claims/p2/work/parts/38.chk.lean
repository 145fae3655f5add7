/-! checks -/
set_option maxRecDepth 100000 in
theorem ck85 : okI cnA cnT 3000 85 = true := by decide +kernel
set_option maxRecDepth 100000 in
theorem ck86 : okI cnA cnT 3000 86 = true := by decide +kernel
set_option maxRecDepth 100000 in
theorem ck87 : okI cnA cnT 3000 87 = true := by decide +kernel
set_option maxRecDepth 100000 in
theorem ck88 : okI cnA cnT 3000 88 = true := by decide +kernel
set_option maxRecDepth 100000 in
theorem ck89 : okI cnA cnT 3000 89 = true := by decide +kernel
set_option maxRecDepth 100000 in
theorem ck90 : okI cnA cnT 3000 90 = true := by decide +kernel
