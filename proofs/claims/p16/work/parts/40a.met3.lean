/-! every instruction of every method is what the tables say -/
theorem meG_19 : ((List.range 142).drop 137).all metC = true := by decide +kernel
theorem meG_20 : ((List.range 146).drop 142).all metC = true := by decide +kernel
theorem meG_21 : ((List.range 151).drop 146).all metC = true := by decide +kernel
theorem meG_22 : ((List.range 157).drop 151).all metC = true := by decide +kernel
theorem meG_23 : ((List.range 161).drop 157).all metC = true := by decide +kernel
theorem meG_24 : ((List.range 167).drop 161).all metC = true := by decide +kernel
theorem meG_25 : ((List.range 169).drop 167).all metC = true := by decide +kernel
theorem meG_26 : ((List.range 174).drop 169).all metC = true := by decide +kernel
theorem meG_27 : ((List.range 180).drop 174).all metC = true := by decide +kernel
theorem meG_28 : ((List.range 186).drop 180).all metC = true := by decide +kernel
theorem meG_29 : ((List.range 188).drop 186).all metC = true := by decide +kernel
theorem meG_30 : ((List.range 189).drop 188).all metC = true := by decide +kernel
theorem meG_31 : ((List.range 191).drop 189).all metC = true := by decide +kernel
theorem meG_32 : ((List.range 196).drop 191).all metC = true := by decide +kernel
theorem meG_33 : ((List.range 200).drop 196).all metC = true := by decide +kernel
theorem meG_34 : ((List.range 203).drop 200).all metC = true := by decide +kernel
theorem meG_35 : ((List.range 207).drop 203).all metC = true := by decide +kernel
theorem meG_36 : ((List.range 212).drop 207).all metC = true := by decide +kernel
theorem meG_37 : ((List.range 226).drop 212).all metC = true := by decide +kernel
theorem meR {a b mi : Nat} (h : ((List.range b).drop a).all metC = true) (h1 : a ≤ mi) (h2 : mi < b) : metC mi = true := by
  refine List.all_eq_true.mp h mi (List.mem_of_getElem? (i := mi - a) ?_)
  rw [List.getElem?_drop, show a + (mi - a) = mi by omega, List.getElem?_range h2]
theorem metAll : ∀ mi, mi < 226 → metC mi = true := by
  intro mi hm
  by_cases h0 : mi < 1
  · rw [show mi = 0 by omega]
    exact met_0
  by_cases h1 : mi < 10
  · exact meR meG_0 (by omega) h1
  by_cases h2 : mi < 20
  · exact meR meG_1 (by omega) h2
  by_cases h3 : mi < 26
  · exact meR meG_2 (by omega) h3
  by_cases h4 : mi < 34
  · exact meR meG_3 (by omega) h4
  by_cases h5 : mi < 42
  · exact meR meG_4 (by omega) h5
  by_cases h6 : mi < 53
  · exact meR meG_5 (by omega) h6
  by_cases h7 : mi < 60
  · exact meR meG_6 (by omega) h7
  by_cases h8 : mi < 66
  · exact meR meG_7 (by omega) h8
  by_cases h9 : mi < 72
  · exact meR meG_8 (by omega) h9
  by_cases h10 : mi < 81
  · exact meR meG_9 (by omega) h10
  by_cases h11 : mi < 88
  · exact meR meG_10 (by omega) h11
  by_cases h12 : mi < 92
  · exact meR meG_11 (by omega) h12
  by_cases h13 : mi < 99
  · exact meR meG_12 (by omega) h13
  by_cases h14 : mi < 105
  · exact meR meG_13 (by omega) h14
  by_cases h15 : mi < 113
  · exact meR meG_14 (by omega) h15
  by_cases h16 : mi < 119
  · exact meR meG_15 (by omega) h16
  by_cases h17 : mi < 125
  · exact meR meG_16 (by omega) h17
  by_cases h18 : mi < 130
  · exact meR meG_17 (by omega) h18
  by_cases h19 : mi < 137
  · exact meR meG_18 (by omega) h19
  by_cases h20 : mi < 142
  · exact meR meG_19 (by omega) h20
  by_cases h21 : mi < 146
  · exact meR meG_20 (by omega) h21
  by_cases h22 : mi < 151
  · exact meR meG_21 (by omega) h22
  by_cases h23 : mi < 157
  · exact meR meG_22 (by omega) h23
  by_cases h24 : mi < 161
  · exact meR meG_23 (by omega) h24
  by_cases h25 : mi < 167
  · exact meR meG_24 (by omega) h25
  by_cases h26 : mi < 169
  · exact meR meG_25 (by omega) h26
  by_cases h27 : mi < 174
  · exact meR meG_26 (by omega) h27
  by_cases h28 : mi < 180
  · exact meR meG_27 (by omega) h28
  by_cases h29 : mi < 186
  · exact meR meG_28 (by omega) h29
  by_cases h30 : mi < 188
  · exact meR meG_29 (by omega) h30
  by_cases h31 : mi < 189
  · exact meR meG_30 (by omega) h31
  by_cases h32 : mi < 191
  · exact meR meG_31 (by omega) h32
  by_cases h33 : mi < 196
  · exact meR meG_32 (by omega) h33
  by_cases h34 : mi < 200
  · exact meR meG_33 (by omega) h34
  by_cases h35 : mi < 203
  · exact meR meG_34 (by omega) h35
  by_cases h36 : mi < 207
  · exact meR meG_35 (by omega) h36
  by_cases h37 : mi < 212
  · exact meR meG_36 (by omega) h37
  by_cases h38 : mi < 226
  · exact meR meG_37 (by omega) h38
  omega
