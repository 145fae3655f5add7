/-! by hand, 18: the reference's law: what it writes besides -/
def mI (I : Nat → Nat → Int) (tp len : Int) (A B C D E : Nat → Int) : Nat → Nat → Int := fun a j => if a = 152 then (if j = 17 then tp else if j = 19 then len else I 152 j) else if a = 168 then A j else if a = 169 then B j else if a = 170 then C j else if a = 171 then D j else if a = 172 then E j else I a j
section
variable {I : Nat → Nat → Int} {tp len p fa op cm w sm nm : Int} {A B C D E X W F H G : Nat → Int} {j : Nat} {v : Int}
theorem l_1 : pI (mI I tp len A B C D E) p fa op cm w sm nm X W F H G 152 1 = I 152 1 := rfl
theorem l_17 : pI (mI I tp len A B C D E) p fa op cm w sm nm X W F H G 152 17 = tp := rfl
theorem u_17 : up2 (pI (mI I tp len A B C D E) p fa op cm w sm nm X W F H G) 152 17 v = pI (mI I v len A B C D E) p fa op cm w sm nm X W F H G := by
  funext a i
  unfold up2 pI mI
  by_cases h : a = 152
  · subst h
    by_cases h2 : i = 17
    · subst h2
      simp
    · simp [h2]
  · simp [h]
theorem l_19 : pI (mI I tp len A B C D E) p fa op cm w sm nm X W F H G 152 19 = len := rfl
theorem u_19 : up2 (pI (mI I tp len A B C D E) p fa op cm w sm nm X W F H G) 152 19 v = pI (mI I tp v A B C D E) p fa op cm w sm nm X W F H G := by
  funext a i
  unfold up2 pI mI
  by_cases h : a = 152
  · subst h
    by_cases h2 : i = 19
    · subst h2
      simp
    · simp [h2]
  · simp [h]
theorem l_168 : pI (mI I tp len A B C D E) p fa op cm w sm nm X W F H G 168 j = A j := rfl
theorem u_168 : up2 (pI (mI I tp len A B C D E) p fa op cm w sm nm X W F H G) 168 j v = pI (mI I tp len (sx A j v) B C D E) p fa op cm w sm nm X W F H G := by
  funext a i
  unfold up2 pI mI sx
  by_cases h : a = 168
  · subst h
    by_cases h2 : i = j
    · subst h2
      simp
    · simp [h2]
  · by_cases h3 : a = 152
    · simp [h3]
    · simp [h, h3]
theorem l_169 : pI (mI I tp len A B C D E) p fa op cm w sm nm X W F H G 169 j = B j := rfl
theorem u_169 : up2 (pI (mI I tp len A B C D E) p fa op cm w sm nm X W F H G) 169 j v = pI (mI I tp len A (sx B j v) C D E) p fa op cm w sm nm X W F H G := by
  funext a i
  unfold up2 pI mI sx
  by_cases h : a = 169
  · subst h
    by_cases h2 : i = j
    · subst h2
      simp
    · simp [h2]
  · by_cases h3 : a = 152
    · simp [h3]
    · simp [h, h3]
theorem l_170 : pI (mI I tp len A B C D E) p fa op cm w sm nm X W F H G 170 j = C j := rfl
theorem u_170 : up2 (pI (mI I tp len A B C D E) p fa op cm w sm nm X W F H G) 170 j v = pI (mI I tp len A B (sx C j v) D E) p fa op cm w sm nm X W F H G := by
  funext a i
  unfold up2 pI mI sx
  by_cases h : a = 170
  · subst h
    by_cases h2 : i = j
    · subst h2
      simp
    · simp [h2]
  · by_cases h3 : a = 152
    · simp [h3]
    · simp [h, h3]
theorem l_171 : pI (mI I tp len A B C D E) p fa op cm w sm nm X W F H G 171 j = D j := rfl
theorem u_171 : up2 (pI (mI I tp len A B C D E) p fa op cm w sm nm X W F H G) 171 j v = pI (mI I tp len A B C (sx D j v) E) p fa op cm w sm nm X W F H G := by
  funext a i
  unfold up2 pI mI sx
  by_cases h : a = 171
  · subst h
    by_cases h2 : i = j
    · subst h2
      simp
    · simp [h2]
  · by_cases h3 : a = 152
    · simp [h3]
    · simp [h, h3]
theorem l_172 : pI (mI I tp len A B C D E) p fa op cm w sm nm X W F H G 172 j = E j := rfl
theorem u_172 : up2 (pI (mI I tp len A B C D E) p fa op cm w sm nm X W F H G) 172 j v = pI (mI I tp len A B C D (sx E j v)) p fa op cm w sm nm X W F H G := by
  funext a i
  unfold up2 pI mI sx
  by_cases h : a = 172
  · subst h
    by_cases h2 : i = j
    · subst h2
      simp
    · simp [h2]
  · by_cases h3 : a = 152
    · simp [h3]
    · simp [h, h3]
end
theorem it_j {I : Nat → Nat → Int} {a j k : Nat} {x : Int} (h : x = I a j) : (if j = k then I a k else x) = I a j := by
  split
  · rename_i e
    rw [e]
  · exact h
theorem it_a {I : Nat → Nat → Int} {a j k : Nat} {x : Int} (h : x = I a j) : (if a = k then I k j else x) = I a j := by
  split
  · rename_i e
    rw [e]
  · exact h
theorem pm_id {I : Nat → Nat → Int} : pI (mI I (I 152 17) (I 152 19) (I 168) (I 169) (I 170) (I 171) (I 172)) (I 152 18) (I 152 20) (I 152 21) (I 152 22) (I 152 23) (I 152 24) (I 152 25) (I 163) (I 164) (I 165) (I 166) (I 167) = I := by
  funext a j
  unfold pI mI
  by_cases h : a = 152
  · subst h
    rw [if_pos rfl, if_pos rfl]
    exact it_j (it_j (it_j (it_j (it_j (it_j (it_j (it_j (it_j rfl))))))))
  · rw [if_neg h, if_neg h]
    exact it_a (it_a (it_a (it_a (it_a (it_a (it_a (it_a (it_a (it_a rfl)))))))))
theorem pm_H {s : Nat} {T : Nat → Nat × Nat} {I J : Nat → Nat → Int} {R : Nat → Nat → Option Nat} {tp len p fa op cm w sm nm : Int} {A B C D E X W F H G : Nat → Int} (h : eH5 (185, s, T, I, J, R)) (h1 : 0 ≤ tp ∧ tp ≤ 200) (h2 : 0 ≤ len ∧ len ≤ 160) (h3 : 0 ≤ p ∧ p ≤ 160) (h4 : rg fa) (h5 : rg op) (h6 : 0 ≤ cm ∧ cm ≤ 180) (h7 : 0 ≤ w ∧ w ≤ 180) (h8 : 0 ≤ sm ∧ sm ≤ 12) (h9 : rg nm) (hX : XB X) (hW : XB W) (hF : YB F) (hH : YB H) (hG : YB G) (hA : ∀ j, j < 1080 → rg (A j)) (hB : ∀ j, j < 6 → 0 ≤ B j ∧ B j ≤ 12) (hC : ∀ j, j < 72 → 0 ≤ C j ∧ C j ≤ 1080) (hD : ∀ j, j < 72 → 0 ≤ D j ∧ D j ≤ 1080) (hE : ∀ j, j < 72 → 0 ≤ E j ∧ E j ≤ 1080) : eH5 (185, s, T, pI (mI I tp len A B C D E) p fa op cm w sm nm X W F H G, J, R) ∧ eM cn178.2.2.2.1 (185, s, T, I, J, R) (185, s, T, pI (mI I tp len A B C D E) p fa op cm w sm nm X W F H G, J, R) := by
  refine ⟨⟨h.1, h.2.1, fun a j ha hj => ?_, h.2.2.2⟩, rfl, rfl, rfl, fun a j hm => ⟨?_, rfl, rfl⟩⟩
  · have hI := h.2.2.1 a j ha hj
    show (bI a j).1 ≤ pI (mI I tp len A B C D E) p fa op cm w sm nm X W F H G a j ∧ pI (mI I tp len A B C D E) p fa op cm w sm nm X W F H G a j ≤ (bI a j).2
    have hI : (bI a j).1 ≤ I a j ∧ I a j ≤ (bI a j).2 := hI
    unfold pI mI
    by_cases e : a = 152
    · subst e
      rw [if_pos rfl]
      by_cases e : j = 18
      · subst e; exact h3
      rw [if_neg e]
      by_cases e : j = 20
      · subst e; exact h4
      rw [if_neg e]
      by_cases e : j = 21
      · subst e; exact h5
      rw [if_neg e]
      by_cases e : j = 22
      · subst e; exact h6
      rw [if_neg e]
      by_cases e : j = 23
      · subst e; exact h7
      rw [if_neg e]
      by_cases e : j = 24
      · subst e; exact h8
      rw [if_neg e]
      by_cases e : j = 25
      · subst e; exact h9
      rw [if_neg e, if_pos rfl]
      by_cases e : j = 17
      · subst e; exact h1
      rw [if_neg e]
      by_cases e : j = 19
      · subst e; exact h2
      rw [if_neg e]
      exact hI
    rw [if_neg e, if_neg e]
    by_cases e : a = 163
    · subst e
      rw [if_pos rfl, bI_hi (show 100 ≤ (tT.getD 163 (0, 0)).1 by decide), show bI 163 0 = (-2147483648, 2147483647) by decide]
      exact hX j hj
    rw [if_neg e]
    by_cases e : a = 164
    · subst e
      rw [if_pos rfl, bI_hi (show 100 ≤ (tT.getD 164 (0, 0)).1 by decide), show bI 164 0 = (-2147483648, 2147483647) by decide]
      exact hW j hj
    rw [if_neg e]
    by_cases e : a = 165
    · subst e
      rw [if_pos rfl, bI_hi (show 100 ≤ (tT.getD 165 (0, 0)).1 by decide), show bI 165 0 = (0, 180) by decide]
      exact hF j hj
    rw [if_neg e]
    by_cases e : a = 166
    · subst e
      rw [if_pos rfl, bI_hi (show 100 ≤ (tT.getD 166 (0, 0)).1 by decide), show bI 166 0 = (0, 180) by decide]
      exact hH j hj
    rw [if_neg e]
    by_cases e : a = 167
    · subst e
      rw [if_pos rfl, bI_hi (show 100 ≤ (tT.getD 167 (0, 0)).1 by decide), show bI 167 0 = (0, 180) by decide]
      exact hG j hj
    rw [if_neg e]
    by_cases e : a = 168
    · subst e
      rw [if_pos rfl, bI_hi (show 100 ≤ (tT.getD 168 (0, 0)).1 by decide), show bI 168 0 = (-2147483648, 2147483647) by decide]
      exact hA j hj
    rw [if_neg e]
    by_cases e : a = 169
    · subst e
      rw [if_pos rfl, bI_hi (show 100 ≤ (tT.getD 169 (0, 0)).1 by decide), show bI 169 0 = (0, 12) by decide]
      exact hB j hj
    rw [if_neg e]
    by_cases e : a = 170
    · subst e
      rw [if_pos rfl, bI_hi (show 100 ≤ (tT.getD 170 (0, 0)).1 by decide), show bI 170 0 = (0, 1080) by decide]
      exact hC j hj
    rw [if_neg e]
    by_cases e : a = 171
    · subst e
      rw [if_pos rfl, bI_hi (show 100 ≤ (tT.getD 171 (0, 0)).1 by decide), show bI 171 0 = (0, 1080) by decide]
      exact hD j hj
    rw [if_neg e]
    by_cases e : a = 172
    · subst e
      rw [if_pos rfl, bI_hi (show 100 ≤ (tT.getD 172 (0, 0)).1 by decide), show bI 172 0 = (0, 1080) by decide]
      exact hE j hj
    rw [if_neg e]
    exact hI
  · show pI (mI I tp len A B C D E) p fa op cm w sm nm X W F H G a j = I a j
    unfold pI mI
    by_cases e : a = 152
    · subst e
      rw [if_pos rfl]
      by_cases e : j = 18
      · subst e; exact absurd hm (by decide)
      rw [if_neg e]
      by_cases e : j = 20
      · subst e; exact absurd hm (by decide)
      rw [if_neg e]
      by_cases e : j = 21
      · subst e; exact absurd hm (by decide)
      rw [if_neg e]
      by_cases e : j = 22
      · subst e; exact absurd hm (by decide)
      rw [if_neg e]
      by_cases e : j = 23
      · subst e; exact absurd hm (by decide)
      rw [if_neg e]
      by_cases e : j = 24
      · subst e; exact absurd hm (by decide)
      rw [if_neg e]
      by_cases e : j = 25
      · subst e; exact absurd hm (by decide)
      rw [if_neg e]
      rw [if_pos rfl]
      by_cases e : j = 17
      · subst e; exact absurd hm (by decide)
      rw [if_neg e]
      by_cases e : j = 19
      · subst e; exact absurd hm (by decide)
      rw [if_neg e]
    rw [if_neg e, if_neg e]
    by_cases e : a = 163
    · subst e; exact absurd hm (by show ¬ (true = false); decide)
    rw [if_neg e]
    by_cases e : a = 164
    · subst e; exact absurd hm (by show ¬ (true = false); decide)
    rw [if_neg e]
    by_cases e : a = 165
    · subst e; exact absurd hm (by show ¬ (true = false); decide)
    rw [if_neg e]
    by_cases e : a = 166
    · subst e; exact absurd hm (by show ¬ (true = false); decide)
    rw [if_neg e]
    by_cases e : a = 167
    · subst e; exact absurd hm (by show ¬ (true = false); decide)
    rw [if_neg e]
    by_cases e : a = 168
    · subst e; exact absurd hm (by show ¬ (true = false); decide)
    rw [if_neg e]
    by_cases e : a = 169
    · subst e; exact absurd hm (by show ¬ (true = false); decide)
    rw [if_neg e]
    by_cases e : a = 170
    · subst e; exact absurd hm (by show ¬ (true = false); decide)
    rw [if_neg e]
    by_cases e : a = 171
    · subst e; exact absurd hm (by show ¬ (true = false); decide)
    rw [if_neg e]
    by_cases e : a = 172
    · subst e; exact absurd hm (by show ¬ (true = false); decide)
    rw [if_neg e]
