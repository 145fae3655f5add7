/-! every instruction of the law, the rest of it -/
theorem me0_11 : met0 ((cd0.drop 440).take 40) (pc0.drop 440) = true := by decide +kernel
theorem me0_12 : met0 ((cd0.drop 480).take 40) (pc0.drop 480) = true := by decide +kernel
theorem me0_13 : met0 ((cd0.drop 520).take 40) (pc0.drop 520) = true := by decide +kernel
theorem me0_14 : met0 ((cd0.drop 560).take 40) (pc0.drop 560) = true := by decide +kernel
theorem me0_15 : met0 ((cd0.drop 600).take 40) (pc0.drop 600) = true := by decide +kernel
theorem me0_16 : met0 ((cd0.drop 640).take 40) (pc0.drop 640) = true := by decide +kernel
theorem me0_17 : met0 ((cd0.drop 680).take 40) (pc0.drop 680) = true := by decide +kernel
theorem me0_18 : met0 ((cd0.drop 720).take 40) (pc0.drop 720) = true := by decide +kernel
theorem me0_19 : met0 ((cd0.drop 760).take 40) (pc0.drop 760) = true := by decide +kernel
theorem me0_20 : met0 ((cd0.drop 800).take 40) (pc0.drop 800) = true := by decide +kernel
theorem me0_21 : met0 ((cd0.drop 840).take 40) (pc0.drop 840) = true := by decide +kernel
theorem me0_z : met0 (cd0.drop 880) (pc0.drop 880) = true := by decide +kernel
theorem me0_c21 : met0 (cd0.drop 840) (pc0.drop 840) = true := metB_td 40 _ _ me0_21 (by rw [List.drop_drop, List.drop_drop]; exact me0_z)
theorem me0_c20 : met0 (cd0.drop 800) (pc0.drop 800) = true := metB_td 40 _ _ me0_20 (by rw [List.drop_drop, List.drop_drop]; exact me0_c21)
theorem me0_c19 : met0 (cd0.drop 760) (pc0.drop 760) = true := metB_td 40 _ _ me0_19 (by rw [List.drop_drop, List.drop_drop]; exact me0_c20)
theorem me0_c18 : met0 (cd0.drop 720) (pc0.drop 720) = true := metB_td 40 _ _ me0_18 (by rw [List.drop_drop, List.drop_drop]; exact me0_c19)
theorem me0_c17 : met0 (cd0.drop 680) (pc0.drop 680) = true := metB_td 40 _ _ me0_17 (by rw [List.drop_drop, List.drop_drop]; exact me0_c18)
theorem me0_c16 : met0 (cd0.drop 640) (pc0.drop 640) = true := metB_td 40 _ _ me0_16 (by rw [List.drop_drop, List.drop_drop]; exact me0_c17)
theorem me0_c15 : met0 (cd0.drop 600) (pc0.drop 600) = true := metB_td 40 _ _ me0_15 (by rw [List.drop_drop, List.drop_drop]; exact me0_c16)
theorem me0_c14 : met0 (cd0.drop 560) (pc0.drop 560) = true := metB_td 40 _ _ me0_14 (by rw [List.drop_drop, List.drop_drop]; exact me0_c15)
theorem me0_c13 : met0 (cd0.drop 520) (pc0.drop 520) = true := metB_td 40 _ _ me0_13 (by rw [List.drop_drop, List.drop_drop]; exact me0_c14)
theorem me0_c12 : met0 (cd0.drop 480) (pc0.drop 480) = true := metB_td 40 _ _ me0_12 (by rw [List.drop_drop, List.drop_drop]; exact me0_c13)
theorem me0_c11 : met0 (cd0.drop 440) (pc0.drop 440) = true := metB_td 40 _ _ me0_11 (by rw [List.drop_drop, List.drop_drop]; exact me0_c12)
theorem me0_c10 : met0 (cd0.drop 400) (pc0.drop 400) = true := metB_td 40 _ _ me0_10 (by rw [List.drop_drop, List.drop_drop]; exact me0_c11)
theorem me0_c9 : met0 (cd0.drop 360) (pc0.drop 360) = true := metB_td 40 _ _ me0_9 (by rw [List.drop_drop, List.drop_drop]; exact me0_c10)
theorem me0_c8 : met0 (cd0.drop 320) (pc0.drop 320) = true := metB_td 40 _ _ me0_8 (by rw [List.drop_drop, List.drop_drop]; exact me0_c9)
theorem me0_c7 : met0 (cd0.drop 280) (pc0.drop 280) = true := metB_td 40 _ _ me0_7 (by rw [List.drop_drop, List.drop_drop]; exact me0_c8)
theorem me0_c6 : met0 (cd0.drop 240) (pc0.drop 240) = true := metB_td 40 _ _ me0_6 (by rw [List.drop_drop, List.drop_drop]; exact me0_c7)
theorem me0_c5 : met0 (cd0.drop 200) (pc0.drop 200) = true := metB_td 40 _ _ me0_5 (by rw [List.drop_drop, List.drop_drop]; exact me0_c6)
theorem me0_c4 : met0 (cd0.drop 160) (pc0.drop 160) = true := metB_td 40 _ _ me0_4 (by rw [List.drop_drop, List.drop_drop]; exact me0_c5)
theorem me0_c3 : met0 (cd0.drop 120) (pc0.drop 120) = true := metB_td 40 _ _ me0_3 (by rw [List.drop_drop, List.drop_drop]; exact me0_c4)
theorem me0_c2 : met0 (cd0.drop 80) (pc0.drop 80) = true := metB_td 40 _ _ me0_2 (by rw [List.drop_drop, List.drop_drop]; exact me0_c3)
theorem me0_c1 : met0 (cd0.drop 40) (pc0.drop 40) = true := metB_td 40 _ _ me0_1 (by rw [List.drop_drop, List.drop_drop]; exact me0_c2)
theorem me0_c0 : met0 (cd0.drop 0) (pc0.drop 0) = true := metB_td 40 _ _ me0_0 (by rw [List.drop_drop, List.drop_drop]; exact me0_c1)
theorem met_0 : metC 0 = true := me0_c0
