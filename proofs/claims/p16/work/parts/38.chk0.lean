/-! checks of contracts (chunk by chunk) -/
set_option maxRecDepth 100000 in
theorem ckA0 : ((List.range 10).map (fun i => i + 0)).all (fun i => hndL.any (fun h => h == i) || okI cnA cnT 3000 i) = true := by decide +kernel
set_option maxRecDepth 100000 in
theorem ckA1 : ((List.range 10).map (fun i => i + 10)).all (fun i => hndL.any (fun h => h == i) || okI cnA cnT 3000 i) = true := by decide +kernel
set_option maxRecDepth 100000 in
theorem ckA2 : ((List.range 10).map (fun i => i + 20)).all (fun i => hndL.any (fun h => h == i) || okI cnA cnT 3000 i) = true := by decide +kernel
set_option maxRecDepth 100000 in
theorem ckA3 : ((List.range 10).map (fun i => i + 30)).all (fun i => hndL.any (fun h => h == i) || okI cnA cnT 3000 i) = true := by decide +kernel
set_option maxRecDepth 100000 in
theorem ckA4 : ((List.range 10).map (fun i => i + 40)).all (fun i => hndL.any (fun h => h == i) || okI cnA cnT 3000 i) = true := by decide +kernel
set_option maxRecDepth 100000 in
theorem ckA5 : ((List.range 10).map (fun i => i + 50)).all (fun i => hndL.any (fun h => h == i) || okI cnA cnT 3000 i) = true := by decide +kernel
