/-! checks of contracts (chunk by chunk) -/
set_option maxRecDepth 100000 in
theorem ckC0 : ((List.range 10).map (fun i => i + 120)).all (fun i => hndL.any (fun h => h == i) || okI cnA cnT 3000 i) = true := by decide +kernel
set_option maxRecDepth 100000 in
theorem ckC1 : ((List.range 10).map (fun i => i + 130)).all (fun i => hndL.any (fun h => h == i) || okI cnA cnT 3000 i) = true := by decide +kernel
set_option maxRecDepth 100000 in
theorem ckC2 : ((List.range 10).map (fun i => i + 140)).all (fun i => hndL.any (fun h => h == i) || okI cnA cnT 3000 i) = true := by decide +kernel
set_option maxRecDepth 100000 in
theorem ckC3 : ((List.range 10).map (fun i => i + 150)).all (fun i => hndL.any (fun h => h == i) || okI cnA cnT 3000 i) = true := by decide +kernel
set_option maxRecDepth 100000 in
theorem ckC4 : ((List.range 10).map (fun i => i + 160)).all (fun i => hndL.any (fun h => h == i) || okI cnA cnT 3000 i) = true := by decide +kernel
set_option maxRecDepth 100000 in
theorem ckC5 : ((List.range 10).map (fun i => i + 170)).all (fun i => hndL.any (fun h => h == i) || okI cnA cnT 3000 i) = true := by decide +kernel
