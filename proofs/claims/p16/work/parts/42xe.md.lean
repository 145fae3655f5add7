/-! the law's two readers, 13: the laws of stores are alike -/
def lwX (I : Nat → Nat → Int) (q : Nat) (co : Nat → Int × Int) (b : List (Nat × Nat)) (m : Nat) : Prop := I q 0 = (b.length : Int) ∧ (∀ j, j < m → I (q + 1) j = sgn (co j).1 ∧ I (q + 2) j = (co j).2) ∧ I (q + 3) 0 = 0 ∧ ∀ j, j < b.length → I (q + 4) j = ((b.getD j (0, 0)).1 : Int) ∧ I (q + 3) (j + 1) = ((b.getD j (0, 0)).2 : Int)
def lwM (I : Nat → Nat → Int) (k : Nat) (co : Nat → Int × Int) (b : List (Nat × Nat)) (m : Nat) : Prop := I 169 k = (b.length : Int) ∧ (∀ j, j < m → I 168 (180 * k + j) = 1048576 * (co j).1 + (co j).2) ∧ ∀ j, j < b.length → I 170 (12 * k + j) = 180 * (k : Int) + ((stF 0 b j : Nat) : Int) ∧ I 171 (12 * k + j) = 180 * (k : Int) + ((b.getD j (0, 0)).1 : Int) ∧ I 172 (12 * k + j) = 180 * (k : Int) + ((b.getD j (0, 0)).2 : Int)
def lwV (co : Nat → Int × Int) (b : List (Nat × Nat)) (m : Nat) : Prop := b.length ≤ 12 ∧ m ≤ 160 ∧ ∀ j, j < b.length → hvR co (stF 0 b j) (b.getD j (0, 0)).1 (b.getD j (0, 0)).2 ∧ (b.getD j (0, 0)).2 ≤ m
/-- the law of store k in the class's object q -/
def lwK (I : Nat → Nat → Int) (q k : Nat) : Prop := ∃ (co : Nat → Int × Int) (b : List (Nat × Nat)) (m : Nat), lwX I q co b m ∧ lwM I k co b m ∧ lwV co b m
def LKW (g : AH) : Prop := (∀ q, q ∈ lawIds → g.2.2.2.1 (q + 3) 0 = 0) ∧ (∀ k, k < 6 → ∃ q, g.2.2.2.2.2 80 k = some q ∧ q ∈ lawIds ∧ lwK g.2.2.2.1 q k) ∧ (∀ k k', k < 6 → k' < 6 → g.2.2.2.2.2 80 k = g.2.2.2.2.2 80 k' → k = k') ∧ ∀ k, k < 6 → g.2.2.2.2.2 80 k ≠ g.2.2.2.2.2 0 12
theorem lwX_of {I I' : Nat → Nat → Int} {q m : Nat} {co : Nat → Int × Int} {b : List (Nat × Nat)} (h : lwX I q co b m) (e0 : I' q 0 = I q 0) (e : ∀ i j, 1 ≤ i → i ≤ 4 → I' (q + i) j = I (q + i) j) : lwX I' q co b m := by
  obtain ⟨h1, h5, h6, h7⟩ := h
  refine ⟨e0.trans h1, fun j hj => ?_, (e 3 0 (by decide) (by decide)).trans h6, fun j hj => ?_⟩
  · obtain ⟨z1, z2⟩ := h5 j hj
    exact ⟨(e 1 j (by decide) (by decide)).trans z1, (e 2 j (by decide) (by decide)).trans z2⟩
  · obtain ⟨z1, z2⟩ := h7 j hj
    exact ⟨(e 4 j (by decide) (by decide)).trans z1, (e 3 _ (by decide) (by decide)).trans z2⟩
theorem lwM_of {I I' : Nat → Nat → Int} {k m : Nat} {co : Nat → Int × Int} {b : List (Nat × Nat)} (hv : lwV co b m) (h : lwM I k co b m) (f9 : I' 169 k = I 169 k) (f8 : ∀ j, j < 160 → I' 168 (180 * k + j) = I 168 (180 * k + j)) (f0 : ∀ j, j < 12 → I' 170 (12 * k + j) = I 170 (12 * k + j)) (f1 : ∀ j, j < 12 → I' 171 (12 * k + j) = I 171 (12 * k + j)) (f2 : ∀ j, j < 12 → I' 172 (12 * k + j) = I 172 (12 * k + j)) : lwM I' k co b m := by
  obtain ⟨h1, h5, h7⟩ := h
  obtain ⟨v1, v2, -⟩ := hv
  refine ⟨f9.trans h1, fun j hj => (f8 j (by omega)).trans (h5 j hj), fun j hj => ?_⟩
  obtain ⟨z3, z4, z5⟩ := h7 j hj
  exact ⟨(f0 j (by omega)).trans z3, (f1 j (by omega)).trans z4, (f2 j (by omega)).trans z5⟩
theorem lwK_of {I I' : Nat → Nat → Int} {q k : Nat} (h : lwK I q k) (e : ∀ i j, i ≤ 4 → I' (q + i) j = I (q + i) j) (f9 : I' 169 k = I 169 k) (f8 : ∀ j, j < 160 → I' 168 (180 * k + j) = I 168 (180 * k + j)) (f0 : ∀ j, j < 12 → I' 170 (12 * k + j) = I 170 (12 * k + j)) (f1 : ∀ j, j < 12 → I' 171 (12 * k + j) = I 171 (12 * k + j)) (f2 : ∀ j, j < 12 → I' 172 (12 * k + j) = I 172 (12 * k + j)) : lwK I' q k := by
  obtain ⟨co, b, m, hx, hm, hv⟩ := h
  exact ⟨co, b, m, lwX_of hx (e 0 0 (by decide)) (fun i j _ hi => e i j hi), lwM_of hv hm f9 f8 f0 f1 f2, hv⟩
def sW : MO := [(81, some 0), (82, none), (83, none), (84, none), (85, none), (116, some 0), (117, none), (118, none), (119, none), (120, none), (122, some 0), (123, none), (124, none), (125, none), (126, none), (128, some 0), (129, none), (130, none), (131, none), (132, none), (134, some 0), (135, none), (136, none), (137, none), (138, none), (140, some 0), (141, none), (142, none), (143, none), (144, none), (146, some 0), (147, none), (148, none), (149, none), (150, none), (168, none), (169, none), (170, none), (171, none), (172, none), (80, none), (0, some 12)]
theorem sW_q : ∀ q, q ∈ lawIds → inM sW q 0 = true ∧ (∀ j, inM sW (q + 1) j = true) ∧ (∀ j, inM sW (q + 2) j = true) ∧ (∀ j, inM sW (q + 3) j = true) ∧ ∀ j, inM sW (q + 4) j = true := by
  intro q hq
  simp only [lawIds, List.mem_cons, List.not_mem_nil, or_false] at hq
  rcases hq with rfl | rfl | rfl | rfl | rfl | rfl | rfl <;> exact ⟨rfl, fun _ => rfl, fun _ => rfl, fun _ => rfl, fun _ => rfl⟩
theorem sW_r : (∀ j, inM sW 168 j = true) ∧ (∀ j, inM sW 169 j = true) ∧ (∀ j, inM sW 170 j = true) ∧ (∀ j, inM sW 171 j = true) ∧ (∀ j, inM sW 172 j = true) ∧ (∀ j, inM sW 80 j = true) ∧ inM sW 0 12 = true := ⟨fun _ => rfl, fun _ => rfl, fun _ => rfl, fun _ => rfl, fun _ => rfl, fun _ => rfl, rfl⟩
theorem LKW_M {M : MO} {g g' : AH} (hd : disj M sW = true) (hM : eM M g g') (h : LKW g) : LKW g' := by
  have e : ∀ a j, inM sW a j = true → g'.2.2.2.1 a j = g.2.2.2.1 a j ∧ g'.2.2.2.2.2 a j = g.2.2.2.2.2 a j := fun a j hi => ⟨(hM.2.2.2 a j (disj_r hd hi)).1, (hM.2.2.2 a j (disj_r hd hi)).2.2⟩
  obtain ⟨w1, w2, w3, w4⟩ := h
  obtain ⟨r8, r9, r0, r1, r2, r80, r12⟩ := sW_r
  have eR : ∀ k, g'.2.2.2.2.2 80 k = g.2.2.2.2.2 80 k := fun k => (e 80 k (r80 k)).2
  refine ⟨fun q hq => (e _ _ ((sW_q q hq).2.2.2.1 0)).1.trans (w1 q hq), fun k hk => ?_, fun k k' hk hk' => ?_, fun k hk => ?_⟩
  · obtain ⟨q, z1, z2, z3⟩ := w2 k hk
    obtain ⟨c0, c1, c2, c3, c4⟩ := sW_q q z2
    refine ⟨q, (eR k).trans z1, z2, ?_⟩
    obtain ⟨co, b, m, hx, hm, hv⟩ := z3
    refine ⟨co, b, m, lwX_of hx (e _ _ c0).1 (fun i j h1 h2 => ?_), lwM_of hv hm (e _ _ (r9 k)).1 (fun j _ => (e _ _ (r8 _)).1) (fun j _ => (e _ _ (r0 _)).1) (fun j _ => (e _ _ (r1 _)).1) (fun j _ => (e _ _ (r2 _)).1), hv⟩
    have hi : i = 1 ∨ i = 2 ∨ i = 3 ∨ i = 4 := by omega
    rcases hi with rfl | rfl | rfl | rfl
    · exact (e _ _ (c1 j)).1
    · exact (e _ _ (c2 j)).1
    · exact (e _ _ (c3 j)).1
    · exact (e _ _ (c4 j)).1
  · rw [eR, eR]
    exact w3 k k' hk hk'
  · rw [eR, (e 0 12 r12).2]
    exact w4 k hk
theorem pr_W {L s d mx mm k nx nm : Nat} {X : Nat → Int} {lg : Bool} {cx cm : CON} (hL : L ≤ 3072) (hX : ∀ j, rg32 (X j)) (hx : conS cx) (hm : conS cm) (hb : pairB cx cm mx mm k nx nm = true) (ha : (ansB lg cx && ansB lg cm) = true) (hd : 40 ≤ d) (hS : (disj cx.2.2.2.1 sW && disj cm.2.2.2.1 sW) = true) : pr L X s LKW d mx mm k lg false := by
  rw [Bool.and_eq_true] at ha hS
  exact pr_fr hL hX hx hm hb ha.1 ha.2 hd (fun g g' hM h => LKW_M hS.1 hM h) (fun g g' hM h => LKW_M hS.2 hM h)
theorem lawIds_sep : ∀ q, q ∈ lawIds → ∀ q', q' ∈ lawIds → q' ≠ q → q' + 4 < q ∨ q + 4 < q' := by decide
section
variable {s k sp q : Nat} {T : Nat → Nat × Nat} {I I2 J J2 : Nat → Nat → Int} {R : Nat → Nat → Option Nat}
theorem LKW_bad (hw : LKW (185, s, T, I, J, R)) (e12 : R 0 12 = some sp) (F1 : ∀ q', q' ∈ lawIds → q' ≠ sp → ∀ i j, i ≤ 4 → I2 (q' + i) j = I (q' + i) j) (F0 : I2 (sp + 3) 0 = 0) (O : ∀ a j, 168 ≤ a → a ≤ 172 → I2 a j = I a j) : LKW (185, s, T, I2, J2, rdR R sp) := by
  obtain ⟨w1, w2, w3, w4⟩ := hw
  have eR : ∀ j, rdR R sp 80 j = R 80 j := fun j => rdR_na (by decide)
  have eS : rdR R sp 0 12 = R 0 12 := rdR_na (by decide)
  refine ⟨fun q' hq' => ?_, fun k hk => ?_, fun k k' hk hk' => ?_, fun k hk => ?_⟩
  · show I2 (q' + 3) 0 = 0
    by_cases z : q' = sp
    · rw [z]
      exact F0
    · rw [F1 q' hq' z 3 0 (by decide)]
      exact w1 q' hq'
  · obtain ⟨q', z1, z2, z3⟩ := w2 k hk
    have z1 : R 80 k = some q' := z1
    refine ⟨q', (eR k).trans z1, z2, ?_⟩
    have hne : q' ≠ sp := by
      intro z
      subst z
      exact w4 k hk (z1.trans e12.symm)
    exact lwK_of z3 (F1 q' z2 hne) (O _ _ (by decide) (by decide)) (fun j _ => O _ _ (by decide) (by decide)) (fun j _ => O _ _ (by decide) (by decide)) (fun j _ => O _ _ (by decide) (by decide)) (fun j _ => O _ _ (by decide) (by decide))
  · show rdR R sp 80 k = rdR R sp 80 k' → k = k'
    rw [eR, eR]
    exact w3 k k' hk hk'
  · show rdR R sp 80 k ≠ rdR R sp 0 12
    rw [eR, eS]
    exact w4 k hk
theorem LKW_end (hk : k < 6) (hw : LKW (185, s, T, I, J, R)) (e12 : R 0 12 = some sp) (msp : sp ∈ lawIds) (e80 : R 80 k = some q) (F1 : ∀ q', q' ∈ lawIds → q' ≠ sp → ∀ i j, i ≤ 4 → I2 (q' + i) j = I (q' + i) j) (hK : lwK I2 sp k) (O9 : ∀ k', k' ≠ k → I2 169 k' = I 169 k') (O8 : ∀ k' j, k' ≠ k → j < 160 → I2 168 (180 * k' + j) = I 168 (180 * k' + j)) (O0 : ∀ k' j, k' ≠ k → j < 12 → I2 170 (12 * k' + j) = I 170 (12 * k' + j)) (O1 : ∀ k' j, k' ≠ k → j < 12 → I2 171 (12 * k' + j) = I 171 (12 * k' + j)) (O2 : ∀ k' j, k' ≠ k → j < 12 → I2 172 (12 * k' + j) = I 172 (12 * k' + j)) : LKW (185, s, T, I2, J2, up2 (up2 (rdR R sp) 80 k (some sp)) 0 12 (some q)) := by
  obtain ⟨w1, w2, w3, w4⟩ := hw
  have w3 : ∀ k k', k < 6 → k' < 6 → R 80 k = R 80 k' → k = k' := w3
  have w4 : ∀ k, k < 6 → R 80 k ≠ R 0 12 := w4
  have eK : up2 (up2 (rdR R sp) 80 k (some sp)) 0 12 (some q) 80 k = some sp := by
    rw [up2_na (by decide), up2_same]
  have eR : ∀ j, j ≠ k → up2 (up2 (rdR R sp) 80 k (some sp)) 0 12 (some q) 80 j = R 80 j := fun j hj => by
    rw [up2_na (by decide), up2_nj hj]
    exact rdR_na (by decide)
  have eS : up2 (up2 (rdR R sp) 80 k (some sp)) 0 12 (some q) 0 12 = some q := up2_same _ _ _ _
  have hK0 := hK
  obtain ⟨-, -, -, ⟨-, -, F0, -⟩, -, -⟩ := hK0
  refine ⟨fun q' hq' => ?_, fun k' hk' => ?_, fun k1 k2 h1 h2 => ?_, fun k' hk' => ?_⟩
  · show I2 (q' + 3) 0 = 0
    by_cases z : q' = sp
    · rw [z]
      exact F0
    · rw [F1 q' hq' z 3 0 (by decide)]
      exact w1 q' hq'
  · by_cases z : k' = k
    · subst z
      exact ⟨sp, eK, msp, hK⟩
    · obtain ⟨q', z1, z2, z3⟩ := w2 k' hk'
      have z1 : R 80 k' = some q' := z1
      refine ⟨q', (eR k' z).trans z1, z2, ?_⟩
      have hne : q' ≠ sp := by
        intro z
        subst z
        exact w4 k' hk' (z1.trans e12.symm)
      exact lwK_of z3 (F1 q' z2 hne) (O9 k' z) (fun j => O8 k' j z) (fun j => O0 k' j z) (fun j => O1 k' j z) (fun j => O2 k' j z)
  · show up2 (up2 (rdR R sp) 80 k (some sp)) 0 12 (some q) 80 k1 = up2 (up2 (rdR R sp) 80 k (some sp)) 0 12 (some q) 80 k2 → k1 = k2
    by_cases z1 : k1 = k
    · by_cases z2 : k2 = k
      · intro _
        omega
      · subst z1
        rw [eK, eR k2 z2]
        exact fun e => absurd (e.symm.trans e12.symm) (w4 k2 h2)
    · by_cases z2 : k2 = k
      · subst z2
        rw [eK, eR k1 z1]
        exact fun e => absurd (e.trans e12.symm) (w4 k1 h1)
      · rw [eR k1 z1, eR k2 z2]
        exact w3 k1 k2 h1 h2
  · show up2 (up2 (rdR R sp) 80 k (some sp)) 0 12 (some q) 80 k' ≠ up2 (up2 (rdR R sp) 80 k (some sp)) 0 12 (some q) 0 12
    rw [eS]
    by_cases z : k' = k
    · subst z
      rw [eK]
      intro e
      exact w4 k' hk (e80.trans (e.symm.trans e12.symm))
    · rw [eR k' z]
      intro e
      exact z (w3 k' k hk' hk (e.trans e80.symm))
end
section
variable {I : Nat → Nat → Int} {sp : Nat} {v p f cl sz : Int} {S V A C : Nat → Int}
theorem xq_o (hq : 80 < sp) {a j : Nat} (h1 : 80 < a) (h2 : a < sp ∨ sp + 4 < a) : up2 (xI (up2 I 79 1 v) sp p f cl sz S V A C) 1 1 0 a j = I a j := by
  rw [up2_na (by omega), xI_o hq (by omega) h2, up2_na (by omega)]
end
theorem sgX_bh {s L : Nat} {T : Nat → Nat × Nat} {I J : Nat → Nat → Int} {R : Nat → Nat → Option Nat} (hH : eH (185, s, T, I, J, R)) (hL2 : L ≤ 160) (p : Nat) : -1 ≤ sgX I L p ∧ sgX I L p ≤ 255 := by
  unfold sgX
  by_cases h : p < L
  · rw [if_pos h]
    have := ebd hH (a := 2) (by decide) (show p < 200 by omega) ((bI_hi (by decide)).trans (show bI 2 0 = (0, 255) by decide))
    omega
  · rw [if_neg h]
    decide
section
variable {L s d : Nat} {X : Nat → Int}
set_option maxHeartbeats 1000000 in
theorem prx_lawW (hL : L ≤ 3072) (hX : ∀ j, rg32 (X j)) (hd : 48 ≤ d) : prx L X s (fun g => LKP g ∧ LKW g) LKW d 26 142 2 false false := by
  refine prx_mk (cx := cn73) (cm := cn178) (nx := 2) (nm := 3) hL hX (cn_all 73 (by decide) cn73 rfl) (cn_all 178 (by decide) cn178 rfl) rfl (Nat.le_trans (by decide) hd) (fun as g hl hr0 hH hs hP => ?_)
  obtain ⟨a, n, rfl⟩ := len2 hl
  obtain ⟨c, s, T, I, J, R⟩ := g
  have hc : c = 185 := hH.1
  subst hc
  obtain ⟨hP, hW⟩ := hP
  have hP : LK I := hP
  obtain ⟨l0, l1, l2, l3, l4, l5, l6, l7, l8, l9, l10, l11, l12, l13, l14, l15⟩ := hP
  have e1 : I 0 1 = I 152 1 := l1
  have e8 : I 1 1 = I 152 17 := l8
  obtain ⟨d, rfl⟩ : ∃ e, d = e + 8 := ⟨d - 8, by omega⟩
  show wpc codeT mX (d + 7 + 1) 26 [.inr (.inr (some 0)), .inl a, .inl n] _ _
  refine x26w (by omega) hH (fun hg _ hH1 m1 s1 => ⟨_, rfl, ?_⟩) (fun k n1 sp q ea en hg hk hL2 e12 msp e80 mq => ?_)
  · have hg2 : ¬ ((0 ≤ a ∧ a < I 152 1) ∧ (1 ≤ n ∧ n ≤ 160) ∧ n ≤ I 152 17) := by rw [← e1, ← e8]; exact hg
    show wp codeT mX (d + 8) 142 0 [some (.inr (.inr (some 152))), some (.inl a), some (.inl n), none, none, none] [] (185, s, T, I, J, R) _
    refine w142 hH (fun _ _ hH2 m2 => ?_) (fun _ _ _ _ h => absurd h hg2)
    exact ⟨_, rfl, fun z => (by cases z), hW⟩
  · subst ea en
    have hsp := lawIds_b msp
    have hs0 : hr I n1 = sgX I n1 := hr_sg hH l9 hg.2.2 hL2
    have sgb := sgX_bh hH hL2
    have h80 : 80 < sp := by omega
    have hI : ∀ (p f cl sz : Int) (S V A C : Nat → Int) (a j : Nat), (a = 152 ∨ a = 162) → up2 (xI (up2 I 79 1 (n1 : Int)) sp p f cl sz S V A C) 1 1 0 a j = I a j := by
      intro p f cl sz S V A C a j ha
      exact xq_o h80 (by omega) (by omega)
    have hQ : ∀ (p f cl sz : Int) (S V A C : Nat → Int) (a : Nat), 168 ≤ a → up2 (xI (up2 I 79 1 (n1 : Int)) sp p f cl sz S V A C) 1 1 0 a = I a := by
      intro p f cl sz S V A C a ha
      funext j
      exact xq_o h80 (by omega) (by omega)
    have hF1 : ∀ (p f cl sz : Int) (S V A C : Nat → Int) (q' : Nat), q' ∈ lawIds → q' ≠ sp → ∀ i j, i ≤ 4 → up2 (xI (up2 I 79 1 (n1 : Int)) sp p f cl sz S V A C) 1 1 0 (q' + i) j = I (q' + i) j := by
      intro p f cl sz S V A C q' hq' hne i j hi
      have := lawIds_b hq'
      have := lawIds_sep sp msp q' hq' hne
      exact xq_o h80 (by omega) (by omega)
    have hg2 : ∀ (p f cl sz : Int) (S V A C : Nat → Int), (0 ≤ (k : Int) ∧ (k : Int) < up2 (xI (up2 I 79 1 (n1 : Int)) sp p f cl sz S V A C) 1 1 0 152 1) ∧ (1 ≤ (n1 : Int) ∧ (n1 : Int) ≤ 160) ∧ (n1 : Int) ≤ up2 (xI (up2 I 79 1 (n1 : Int)) sp p f cl sz S V A C) 1 1 0 152 17 := by
      intro p f cl sz S V A C
      rw [hI _ _ _ _ _ _ _ _ _ _ (Or.inl rfl), hI _ _ _ _ _ _ _ _ _ _ (Or.inl rfl), ← e1, ← e8]
      exact hg
    refine ⟨fun f hf h0 p1 cl1 z1 S V A C ha _ hH1 m1 s1 => ⟨_, rfl, ?_⟩, fun h0 S V A C ho _ hH1 m1 s1 => ⟨_, rfl, ?_⟩⟩
    · show wp codeT mX (d + 8) 142 0 [some (.inr (.inr (some 152))), some (.inl (k : Int)), some (.inl (n1 : Int)), none, none, none] [] (185, s, T, _, J, _) _
      refine w142 hH1 (fun h => absurd (hg2 _ _ _ _ _ _ _ _) h) (fun k' n' ek en _ _ _ => ?_)
      have ek : k' = k := by omega
      have en : n' = n1 := by omega
      subst ek en
      rw [hr_of (I := I) (fun j => hI _ _ _ _ _ _ _ _ _ _ (Or.inr rfl)), hs0]
      refine ⟨fun f2 hf2 h02 p o cm w sm nm X W F H G _ hH2 m2 => ⟨_, rfl, fun z => (by cases z), ?_⟩, fun h02 => absurd (hf.symm.trans h02) h0⟩
      refine LKW_bad hW e12 (fun q' hq' hne i j hi => ?_) ?_ (fun a j a1 a2 => ?_)
      · have := lawIds_b hq'
        rw [pm_lo (by omega)]
        exact hF1 _ _ _ _ _ _ _ _ q' hq' hne i j hi
      · rw [pm_lo (by omega), up2_na (by omega), xI_A h80, ha]
        exact hW.1 sp msp
      · have aa : a = 168 ∨ a = 169 ∨ a = 170 ∨ a = 171 ∨ a = 172 := by omega
        rcases aa with rfl | rfl | rfl | rfl | rfl
        · exact congrFun (hQ (p1 : Int) f (cl1 : Int) (z1 : Int) S V A C 168 (by decide)) j
        · exact congrFun (hQ (p1 : Int) f (cl1 : Int) (z1 : Int) S V A C 169 (by decide)) j
        · exact congrFun (hQ (p1 : Int) f (cl1 : Int) (z1 : Int) S V A C 170 (by decide)) j
        · exact congrFun (hQ (p1 : Int) f (cl1 : Int) (z1 : Int) S V A C 171 (by decide)) j
        · exact congrFun (hQ (p1 : Int) f (cl1 : Int) (z1 : Int) S V A C 172 (by decide)) j
    · show wp codeT mX (d + 8) 142 0 [some (.inr (.inr (some 152))), some (.inl (k : Int)), some (.inl (n1 : Int)), none, none, none] [] (185, s, T, _, J, _) _
      refine w142 hH1 (fun h => absurd (hg2 _ _ _ _ _ _ _ _) h) (fun k' n' ek en _ _ _ => ?_)
      have ek : k' = k := by omega
      have en : n' = n1 := by omega
      subst ek en
      rw [hr_of (I := I) (fun j => hI _ _ _ _ _ _ _ _ _ _ (Or.inr rfl)), hs0]
      refine ⟨fun f2 hf2 h02 => absurd (hf2.symm.trans h0) h02, fun h02 nm X W F H G y1 y2 y3 y4 y5 y6 _ hH2 m2 => ⟨_, rfl, fun z => (by cases z), ?_⟩⟩
      have rn := lw_run (sg := sgX I n') (co := fun j => (lwS (sgX I n') n' 161 0 0 0).2.1.getD j (0, 0)) sgb (L := n') 161 0 0 0 h0 (fun j hj => by rw [Nat.zero_add])
      generalize lwS (sgX I n') n' 161 0 0 0 = lw at *
      obtain ⟨-, o2, o3, -, o5⟩ := ho
      obtain ⟨-, u2, -, u4⟩ := y6
      rw [hQ _ _ _ _ _ _ _ _ 168 (by decide), hQ _ _ _ _ _ _ _ _ 169 (by decide), hQ _ _ _ _ _ _ _ _ 170 (by decide), hQ _ _ _ _ _ _ _ _ 171 (by decide), hQ _ _ _ _ _ _ _ _ 172 (by decide)]
      refine LKW_end hk hW e12 msp e80 (fun q' hq' hne i j hi => ?_) ?_ (fun z hz => ?_) (fun z j hz hj => ?_) (fun z j hz hj => ?_) (fun z j hz hj => ?_) (fun z j hz hj => ?_)
      · have := lawIds_b hq'
        rw [pm_lo (by omega)]
        exact hF1 _ _ _ _ _ _ _ _ q' hq' hne i j hi
      · refine ⟨fun j => lw.2.1.getD j (0, 0), lw.2.2, lw.2.1.length, ⟨?_, fun j hj => ⟨?_, ?_⟩, ?_, fun j hj => ⟨?_, ?_⟩⟩, ⟨?_, fun j hj => ?_, fun j hj => ⟨?_, ?_, ?_⟩⟩, y1, y2, fun j hj => ?_⟩
        · rw [pm_lo (by omega), up2_na (by omega), xI_c h80]
        · rw [pm_lo (by omega), up2_na (by omega), xI_S h80]
          have := (o2 j hj).1
          rwa [Nat.zero_add] at this
        · rw [pm_lo (by omega), up2_na (by omega), xI_V h80]
          have := (o2 j hj).2
          rwa [Nat.zero_add] at this
        · rw [pm_lo (by omega), up2_na (by omega), xI_A h80, o3 0 (Nat.le_refl _)]
          exact hW.1 sp msp
        · rw [pm_lo (by omega), up2_na (by omega), xI_C h80]
          have := (o5 j hj).1
          rwa [Nat.zero_add] at this
        · rw [pm_lo (by omega), up2_na (by omega), xI_A h80]
          have := (o5 j hj).2
          rwa [show 0 + 1 + j = j + 1 by omega] at this
        · exact sx_s
        · have := u2 j hj
          rw [Nat.zero_add] at this
          exact (cG_in hj).trans this
        · have := (u4 j hj).1
          rw [Nat.zero_add] at this
          have e : cG 12 (I 170) (fun j => 180 * (k' : Int) + F j) k' lw.2.2.length (12 * k' + j) = 180 * (k' : Int) + F j := cG_in hj
          refine Eq.trans (show _ = cG 12 (I 170) (fun j => 180 * (k' : Int) + F j) k' lw.2.2.length (12 * k' + j) from rfl) (e.trans ?_)
          rw [this]
        · have := (u4 j hj).2.1
          rw [Nat.zero_add] at this
          have e : cG 12 (I 171) (fun j => 180 * (k' : Int) + H j) k' lw.2.2.length (12 * k' + j) = 180 * (k' : Int) + H j := cG_in hj
          refine Eq.trans (show _ = cG 12 (I 171) (fun j => 180 * (k' : Int) + H j) k' lw.2.2.length (12 * k' + j) from rfl) (e.trans ?_)
          rw [this]
        · have := (u4 j hj).2.2
          rw [Nat.zero_add] at this
          have e : cG 12 (I 172) (fun j => 180 * (k' : Int) + G j) k' lw.2.2.length (12 * k' + j) = 180 * (k' : Int) + G j := cG_in hj
          refine Eq.trans (show _ = cG 12 (I 172) (fun j => 180 * (k' : Int) + G j) k' lw.2.2.length (12 * k' + j) from rfl) (e.trans ?_)
          rw [this]
        · have := rn j hj
          rwa [Nat.zero_add] at this
      · exact sx_n hz
      · exact cG_out (by omega)
      · have e : cG 12 (I 170) (fun j => 180 * (k' : Int) + F j) k' lw.2.2.length (12 * z + j) = I 170 (12 * z + j) := cG_out (by omega)
        exact Eq.trans (show _ = cG 12 (I 170) (fun j => 180 * (k' : Int) + F j) k' lw.2.2.length (12 * z + j) from rfl) e
      · have e : cG 12 (I 171) (fun j => 180 * (k' : Int) + H j) k' lw.2.2.length (12 * z + j) = I 171 (12 * z + j) := cG_out (by omega)
        exact Eq.trans (show _ = cG 12 (I 171) (fun j => 180 * (k' : Int) + H j) k' lw.2.2.length (12 * z + j) from rfl) e
      · have e : cG 12 (I 172) (fun j => 180 * (k' : Int) + G j) k' lw.2.2.length (12 * z + j) = I 172 (12 * z + j) := cG_out (by omega)
        exact Eq.trans (show _ = cG 12 (I 172) (fun j => 180 * (k' : Int) + G j) k' lw.2.2.length (12 * z + j) from rfl) e
end
/-- behind the constructors -/
def lkwB0 (g : AH) : Bool := (List.range 6).all (fun k => decide (g.2.2.2.2.2 80 k = some (116 + 6 * k)) && (decide (g.2.2.2.1 (116 + 6 * k) 0 = 0) && decide (g.2.2.2.1 169 k = 0))) && (decide (g.2.2.2.2.2 0 12 = some 81) && lawIds.all (fun q => decide (g.2.2.2.1 (q + 3) 0 = 0)))
theorem LKW_0 {g : AH} {L : Nat} {X : Nat → Int} (h : lkwB0 g = true) : LKW (ov L X g) := by
  have e : ∀ a j : Nat, a < 185 → (ov L X g).2.2.2.1 a j = g.2.2.2.1 a j := fun a j ha => by
    show (if a = 1000000 then X else g.2.2.2.1 a : Nat → Int) j = _
    rw [if_neg (by omega)]
  have eR : (ov L X g).2.2.2.2.2 = g.2.2.2.2.2 := rfl
  unfold lkwB0 at h
  simp only [Bool.and_eq_true, decide_eq_true_eq, List.all_eq_true, List.mem_range] at h
  obtain ⟨h1, h2, h3⟩ := h
  unfold LKW
  rw [eR]
  refine ⟨fun q hq => ?_, fun k hk => ?_, fun k k' hk hk' z => ?_, fun k hk z => ?_⟩
  · have := lawIds_b hq
    rw [e _ _ (by omega)]
    exact h3 q hq
  · obtain ⟨a1, a2, a3⟩ := h1 k hk
    have m : 116 + 6 * k ∈ lawIds := (show ∀ k, k < 6 → 116 + 6 * k ∈ lawIds by decide) k hk
    refine ⟨116 + 6 * k, a1, m, fun _ => (0, 0), [], 0, ⟨?_, fun j hj => absurd hj (Nat.not_lt_zero _), ?_, fun j hj => absurd hj (Nat.not_lt_zero _)⟩, ⟨?_, fun j hj => absurd hj (Nat.not_lt_zero _), fun j hj => absurd hj (Nat.not_lt_zero _)⟩, by decide, by decide, fun j hj => absurd hj (Nat.not_lt_zero _)⟩
    · rw [e _ _ (by omega)]
      exact a2
    · rw [e _ _ (by omega)]
      exact h3 _ m
    · rw [e _ _ (by decide)]
      exact a3
  · rw [(h1 k hk).1, (h1 k' hk').1] at z
    have := Option.some.inj z
    omega
  · rw [(h1 k hk).1, h2] at z
    have := Option.some.inj z
    omega
