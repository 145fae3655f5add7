/-! checks of contracts (chunk by chunk) -/
set_option maxRecDepth 100000 in
theorem ckB0 : ((List.range 10).map (fun i => i + 60)).all (fun i => hndL.any (fun h => h == i) || okI cnA cnT 3000 i) = true := by decide +kernel
set_option maxRecDepth 100000 in
theorem ckB1 : ((List.range 10).map (fun i => i + 70)).all (fun i => hndL.any (fun h => h == i) || okI cnA cnT 3000 i) = true := by decide +kernel
set_option maxRecDepth 100000 in
theorem ckB2 : ((List.range 10).map (fun i => i + 80)).all (fun i => hndL.any (fun h => h == i) || okI cnA cnT 3000 i) = true := by decide +kernel
set_option maxRecDepth 100000 in
theorem ckB3 : ((List.range 10).map (fun i => i + 90)).all (fun i => hndL.any (fun h => h == i) || okI cnA cnT 3000 i) = true := by decide +kernel
set_option maxRecDepth 100000 in
theorem ckB4 : ((List.range 10).map (fun i => i + 100)).all (fun i => hndL.any (fun h => h == i) || okI cnA cnT 3000 i) = true := by decide +kernel
set_option maxRecDepth 100000 in
theorem ckB5 : ((List.range 10).map (fun i => i + 110)).all (fun i => hndL.any (fun h => h == i) || okI cnA cnT 3000 i) = true := by decide +kernel
