/-! part 18: every instruction of every method is what the tables say -/
theorem meG_0 : ((List.range 12).drop 1).all metC = true := by decide +kernel
theorem meG_1 : ((List.range 23).drop 12).all metC = true := by decide +kernel
theorem meG_2 : ((List.range 33).drop 23).all metC = true := by decide +kernel
theorem meG_3 : ((List.range 41).drop 33).all metC = true := by decide +kernel
theorem meG_4 : ((List.range 52).drop 41).all metC = true := by decide +kernel
theorem meG_5 : ((List.range 60).drop 52).all metC = true := by decide +kernel
theorem meG_6 : ((List.range 67).drop 60).all metC = true := by decide +kernel
theorem meG_7 : ((List.range 75).drop 67).all metC = true := by decide +kernel
theorem meG_8 : ((List.range 83).drop 75).all metC = true := by decide +kernel
theorem meG_9 : ((List.range 90).drop 83).all metC = true := by decide +kernel
theorem meG_10 : ((List.range 96).drop 90).all metC = true := by decide +kernel
theorem meG_11 : ((List.range 103).drop 96).all metC = true := by decide +kernel
theorem meG_12 : ((List.range 111).drop 103).all metC = true := by decide +kernel
theorem meG_13 : ((List.range 118).drop 111).all metC = true := by decide +kernel
theorem meG_14 : ((List.range 125).drop 118).all metC = true := by decide +kernel
theorem meG_15 : ((List.range 130).drop 125).all metC = true := by decide +kernel
theorem meG_16 : ((List.range 137).drop 130).all metC = true := by decide +kernel
