/-! the law by hand, last: its run -/
theorem law_prs {L s d : Nat} {X : Nat → Int} (hL : L ≤ 3072) (hX : ∀ j, rg32 (X j)) (hd : 48 ≤ d) : prAll L X s LKP d := by
  have hd40 : 40 ≤ d := Nat.le_trans (by decide) hd
  refine ⟨?_, ?_, ?_, ?_, ?_, ?_, ?_, ?_, ?_, ?_, ?_, ?_, ?_, ?_, ?_, ?_, ?_, ?_, ?_, ?_, ?_, ?_, ?_, ?_, ?_, ?_, ?_, ?_, ?_⟩
  · exact pr_store hL hX hd40
  · exact pr_head hL hX hd40
  · exact pr_share hL hX hd40
  · exact pr_task hL hX hd40
  · exact pr_now hL hX hd40
  · exact pr_seed hL hX hd40
  · exact pr_feed hL hX hd40
  · exact pr_law9 hL hX hd
  · exact pr_q (cx := cn79) (cm := cn143) (nx := 0) (nm := 0) hL hX (cn_all 79 (by decide) cn79 rfl) (cn_all 143 (by decide) cn143 rfl) rfl rfl (Nat.le_trans (by decide) hd) (by decide +kernel)
  · exact pr_does hL hX hd40
  · exact pr_told hL hX hd40
  · exact pr_q (cx := cn84) (cm := cn147) (nx := 0) (nm := 0) hL hX (cn_all 84 (by decide) cn84 rfl) (cn_all 147 (by decide) cn147 rfl) rfl rfl (Nat.le_trans (by decide) hd) (by decide +kernel)
  · exact pr_q (cx := cn85) (cm := cn150) (nx := 0) (nm := 0) hL hX (cn_all 85 (by decide) cn85 rfl) (cn_all 150 (by decide) cn150 rfl) rfl rfl (Nat.le_trans (by decide) hd) (by decide +kernel)
  · exact pr_q (cx := cn89) (cm := cn179) (nx := 0) (nm := 6) hL hX (cn_all 89 (by decide) cn89 rfl) (cn_all 179 (by decide) cn179 rfl) rfl rfl (Nat.le_trans (by decide) hd) (by decide +kernel)
  · exact pr_q (cx := cn91) (cm := cn154) (nx := 0) (nm := 0) hL hX (cn_all 91 (by decide) cn91 rfl) (cn_all 154 (by decide) cn154 rfl) rfl rfl (Nat.le_trans (by decide) hd) (by decide +kernel)
  · exact pr_q (cx := cn108) (cm := cn157) (nx := 3) (nm := 1) hL hX (cn_all 108 (by decide) cn108 rfl) (cn_all 157 (by decide) cn157 rfl) rfl rfl (Nat.le_trans (by decide) hd) (by decide +kernel)
  · exact pr_q (cx := cn110) (cm := cn160) (nx := 5) (nm := 5) hL hX (cn_all 110 (by decide) cn110 rfl) (cn_all 160 (by decide) cn160 rfl) rfl rfl (Nat.le_trans (by decide) hd) (by decide +kernel)
  · exact pr_next hL hX hd40
  · exact pr_q (cx := cn115) (cm := cn163) (nx := 0) (nm := 3) hL hX (cn_all 115 (by decide) cn115 rfl) (cn_all 163 (by decide) cn163 rfl) rfl rfl (Nat.le_trans (by decide) hd) (by decide +kernel)
  · exact pr_old hL hX hd40
  · exact pr_q (cx := cn119) (cm := cn166) (nx := 0) (nm := 5) hL hX (cn_all 119 (by decide) cn119 rfl) (cn_all 166 (by decide) cn166 rfl) rfl rfl (Nat.le_trans (by decide) hd) (by decide +kernel)
  · exact pr_q (cx := cn120) (cm := cn167) (nx := 1) (nm := 1) hL hX (cn_all 120 (by decide) cn120 rfl) (cn_all 167 (by decide) cn167 rfl) rfl rfl (Nat.le_trans (by decide) hd) (by decide +kernel)
  · exact pr_mistakes hL hX hd40
  · exact pr_q (cx := cn125) (cm := cn171) (nx := 0) (nm := 3) hL hX (cn_all 125 (by decide) cn125 rfl) (cn_all 171 (by decide) cn171 rfl) rfl rfl (Nat.le_trans (by decide) hd) (by decide +kernel)
  · exact pr_asks hL hX hd40
  · exact pr_q (cx := cn127) (cm := cn173) (nx := 4) (nm := 3) hL hX (cn_all 127 (by decide) cn127 rfl) (cn_all 173 (by decide) cn173 rfl) rfl rfl (Nat.le_trans (by decide) hd) (by decide +kernel)
  · exact pr_again hL hX hd40
  · exact pr_check hL hX hd40
  · exact pr_q (cx := cn133) (cm := cn177) (nx := 0) (nm := 0) hL hX (cn_all 133 (by decide) cn133 rfl) (cn_all 177 (by decide) cn177 rfl) rfl rfl (Nat.le_trans (by decide) hd) (by decide +kernel)
theorem law_run {L : Nat} {X : Nat → Int} (hL : L ≤ 3072) (hX : ∀ j, rg32 (X j)) : wp codeT mX 1000 0 0 lwL [] (ov L X h00) (fun v g => v = some (.inl 1) ∧ g.1 ≤ 600000 ∧ g.2.1 ≤ 7302250) := by
  refine law_ini2 inlF_ok hL hX (fun g hf hH hs h1 h2 => ?_)
  have hI : Inv L X g.2.1 LKP (ov L X g) := ⟨hH, rfl, rfl, rfl, LK_of hf⟩
  have go := lh_loop (d := 999) hX hL (law_prs hL hX (by decide)) (L + 1) 0 (by omega) (ov L X g) hI
  refine wp_mono codeT mX go (fun v g' hq => ?_)
  obtain ⟨q1, q2, q3⟩ := hq
  exact ⟨q1, by rw [q2]; decide, by rw [q3]; omega⟩
