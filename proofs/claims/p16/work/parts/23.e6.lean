/-! the engine, 7: reading is sound -/
theorem bRA : tR.all (fun l => l.all (fun c => c.all (fun i => decide (i < nO)))) = true := by decide +kernel
theorem bR_lt {a j id : Nat} (h : id ∈ bR a j) : id < nO := by
  unfold bR at h
  rw [List.getD_eq_getElem?_getD, List.getD_eq_getElem?_getD] at h
  cases h1 : tR[a]? with
  | none => rw [h1] at h; cases h
  | some l =>
    rw [h1] at h
    dsimp only [Option.getD_some] at h
    cases h2 : l[j]? with
    | none => rw [h2] at h; cases h
    | some c =>
      rw [h2] at h
      have a1 := List.all_eq_true.mp bRA l (List.mem_of_getElem? h1)
      have a2 := List.all_eq_true.mp a1 c (List.mem_of_getElem? h2)
      exact of_decide_eq_true (List.all_eq_true.mp a2 id h)
section
variable {σ : Nat → Int} {y : EY} {g : AH}
theorem aeB_r {a b : AE} (h : aeB a b = true) : a = b := by
  unfold aeB at h
  rw [Bool.and_eq_true, decide_eq_true_eq, decide_eq_true_eq] at h
  exact Prod.ext h.1 h.2
theorem findO_m {r j : AE} {v : EV} : ∀ {O : EO}, findO r j O = some v → ((r, j), v) ∈ O
  | [], h => by cases h
  | e :: l, h => by
    rw [findO] at h
    split at h
    · rename_i e9
      cases h
      rw [Bool.and_eq_true] at e9
      obtain ⟨⟨p, q⟩, w⟩ := e
      have e1 := aeB_r e9.1
      have e2 := aeB_r e9.2
      dsimp only at e1 e2
      subst e1 e2
      exact List.mem_cons_self
    · exact List.mem_cons_of_mem _ (findO_m h)
theorem eIds_r (h : eY σ y g) {r : AE} (hr : r.1 < y.1.length) (hn : eIds y r ≠ []) : ∃ i ∈ eIds y r, vA σ r = (i : Nat) := by
  unfold eIds at hn ⊢
  split at hn
  · rename_i e
    split at hn
    · rename_i e2
      rw [if_pos e, if_pos e2]
      exact ⟨_, List.mem_singleton.mpr rfl, by rw [k0_r h e]; omega⟩
    · exact absurd rfl hn
  · rename_i e
    split at hn
    · rename_i e2
      rw [if_neg e, if_pos e2]
      split at hn
      · rename_i q hq
        obtain ⟨-, -, h3⟩ := h.1.2.2 _ _ hq
        rcases h3 with h3 | ⟨i, h4, h5⟩
        · exact absurd h3 hn
        · exact ⟨i, h4, by unfold vA; rw [e2, h5]; exact Int.add_zero _⟩
      · exact absurd rfl hn
    · exact absurd rfl hn
theorem okR_r (h : eY σ y g) {r j : AE} {tag : Nat} (hr : r.1 < y.1.length) (hj : j.1 < y.1.length) (ho : okR y r j tag = true) : ∃ i ∈ eIds y r, vA σ r = (i : Nat) ∧ i < nO ∧ (tT.getD i (0, 0)).1 = tag ∧ 0 ≤ vA σ j ∧ (vA σ j).toNat < (tT.getD i (0, 0)).2 := by
  unfold okR at ho
  simp only [Bool.and_eq_true, decide_eq_true_eq, List.all_eq_true] at ho
  obtain ⟨⟨h1, h2⟩, h3⟩ := ho
  obtain ⟨i, hi, e⟩ := eIds_r h hr h1
  obtain ⟨⟨h4, h5⟩, h6⟩ := h3 i hi
  have := bd_r h hj
  exact ⟨i, hi, e, h4, h5, by omega, by omega⟩
theorem puO_r {e : (AE × AE) × EV} (h : eY σ y g) (h1 : e.1.1.1 < y.1.length) (h2 : e.1.2.1 < y.1.length) (h3 : okV y.1.length e.2) (h4 : cellH g (vA σ e.1.1).toNat (vA σ e.1.2).toNat (vV σ e.2)) : eY σ (puO y e) g := by
  obtain ⟨hG, hO, hR⟩ := h
  refine ⟨hG, fun e' he' => ?_, hR⟩
  rcases List.mem_cons.mp he' with rfl | he'
  · exact ⟨h1, h2, h3, h4⟩
  · exact hO e' he'
theorem joB_r : ∀ {l : List (Int × Int)} {p : Int × Int}, p ∈ l → (joB l).1 ≤ p.1 ∧ p.2 ≤ (joB l).2
  | [], p, h => by cases h
  | [q], p, h => by
    rw [List.mem_singleton.mp h]
    exact ⟨Int.le_refl _, Int.le_refl _⟩
  | q :: q2 :: l, p, h => by
    rw [joB]
    · rcases List.mem_cons.mp h with rfl | h
      · dsimp only; omega
      · have := joB_r h
        dsimp only
        omega
    · intro e; cases e
theorem rgN_m {lo hi : Int} {z : Int} (h0 : 0 ≤ lo) (h1 : lo ≤ z) (h2 : z ≤ hi) : z.toNat ∈ rgN lo hi := by
  unfold rgN
  rw [List.mem_map]
  exact ⟨z.toNat - lo.toNat, List.mem_range.mpr (by omega), by omega⟩
/-- a reading: the value and what is known behind it -/
def rdY (σ : Nat → Int) (y : EY) (g : AH) (r : EV × EY) (w : AV) : Prop := ∃ σ', agree σ σ' y.1.length ∧ eY σ' r.2 g ∧ y.1.length ≤ r.2.1.length ∧ eV σ' r.2.1.length r.1 w
def wK (g : AH) (kind a j : Nat) : AV := match kind with
  | 0 => .inl (g.2.2.2.1 a j)
  | 1 => .inr (.inl (g.2.2.2.2.1 a j))
  | _ => .inr (.inr (g.2.2.2.2.2 a j))
theorem frO_r (h : eY σ y g) {r j : AE} (hr : r.1 < y.1.length) (hj : j.1 < y.1.length) {lo hi z : Int} {ids : List Nat} (h1 : lo ≤ z) (h2 : z ≤ hi) (h3 : ids = [] ∨ ∃ i ∈ ids, z = (i : Nat)) (mk : AE → EV) (hm : ∀ N, okV N (mk (y.1.length, 0)) ↔ y.1.length < N) {w : AV} (hw : ∀ σ' : Nat → Int, σ' y.1.length = z → vV σ' (mk (y.1.length, 0)) = w) (hc : cellH g (vA σ r).toNat (vA σ j).toNat w) : rdY σ y g (mk (y.1.length, 0), puO (frs y lo hi ids) ((r, j), mk (y.1.length, 0))) w := by
  obtain ⟨σ', ag, hy, hz⟩ := frs_r h h1 h2 h3
  have hl := frs_len (y := y) (lo := lo) (hi := hi) (ids := ids)
  have hok : okV (frs y lo hi ids).1.length (mk (y.1.length, 0)) := (hm _).mpr (by omega)
  refine ⟨σ', ag, puO_r hy (by dsimp only; omega) (by dsimp only; omega) hok (by dsimp only; rw [vA_ag ag hr, vA_ag ag hj, hw σ' hz]; exact hc), Nat.le_trans (Nat.le_succ _) (Nat.le_of_eq hl.symm), hok, (hw σ' hz).symm⟩
theorem erd_r (h : eY σ y g) (hH : eH g) {kind tag : Nat} {r j : AE} (hr : r.1 < y.1.length) (hj : j.1 < y.1.length) {q : EV × EY} (he : erd kind tag y r j = some q) : ((g.2.2.1 (vA σ r).toNat).1 = tag ∧ (vA σ j).toNat < (g.2.2.1 (vA σ r).toNat).2 ∧ (vA σ r).toNat < g.1 ∧ 0 ≤ vA σ j ∧ 0 ≤ vA σ r) ∧ rdY σ y g q (wK g kind (vA σ r).toNat (vA σ j).toNat) := by
  unfold erd at he
  split at he
  · cases he
  · rename_i hok
    obtain ⟨i, hi, e1, e2, e3, e4, e5⟩ := okR_r h hr hj hok
    have er : (vA σ r).toNat = i := by omega
    obtain ⟨c1, c2, c3, c4, c5, -⟩ := hH
    refine ⟨⟨by rw [er, c2 i e2]; exact e3, by rw [er, c2 i e2]; exact e5, by rw [er, c1]; exact e2, e4, by omega⟩, ?_⟩
    split at he
    · rename_i v hv
      obtain ⟨-, -, o3, o4⟩ := h.2.1 _ (findO_m hv)
      dsimp only at o3 o4
      split at he
      · cases he
        exact ⟨σ, agree_rf, h, Nat.le_refl _, o3, by show Sum.inl _ = _; rw [show g.2.2.2.1 (vA σ r).toNat (vA σ j).toNat = _ from o4]; rfl⟩
      · cases he
        exact ⟨σ, agree_rf, h, Nat.le_refl _, o3, by show Sum.inr (Sum.inl _) = _; rw [show g.2.2.2.2.1 (vA σ r).toNat (vA σ j).toNat = _ from o4]; rfl⟩
      · cases he
        exact ⟨σ, agree_rf, h, Nat.le_refl _, o3, by show Sum.inr (Sum.inr _) = _; rw [show g.2.2.2.2.2 (vA σ r).toNat (vA σ j).toNat = _ from o4]; rfl⟩
      · cases he
    · have bj := bd_r h hj
      split at he
      · split at he
        · rename_i hk
          cases he
          have hb : (bI i (vA σ j).toNat) ∈ (eIds y r).map (fun i => bI i (bd y j).1.toNat) := by
            rw [List.mem_map]
            refine ⟨i, hi, ?_⟩
            rcases hk with hk | hk
            · unfold bI
              rw [e3, if_pos hk, if_pos hk]
            · have : vA σ j = (bd y j).1 := by omega
              rw [this]
          have jb := joB_r hb
          have cc := c3 i _ e2 e5
          exact frO_r h hr hj (z := g.2.2.2.1 (vA σ r).toNat (vA σ j).toNat) (by rw [er]; omega) (by rw [er]; omega) (Or.inl rfl) Sum.inl (fun N => Iff.rfl) (fun σ' hz => by show Sum.inl (vA σ' (y.1.length, 0)) = _; rw [vA0, hz]; rfl) rfl
        · cases he
      · cases he
        have cc := c4 i _ e2 e5
        exact frO_r h hr hj (z := g.2.2.2.2.1 (vA σ r).toNat (vA σ j).toNat) (by rw [er]; omega) (by rw [er]; omega) (Or.inl rfl) (fun a => Sum.inr (Sum.inl a)) (fun N => Iff.rfl) (fun σ' hz => by show Sum.inr (Sum.inl (vA σ' (y.1.length, 0))) = _; rw [vA0, hz]; rfl) rfl
      · split at he
        · rename_i hall
          have hq : bR i (vA σ j).toNat ≠ [] := by
            have := List.all_eq_true.mp hall i hi
            have := List.all_eq_true.mp this _ (rgN_m (by unfold okR at hok; simp only [Bool.and_eq_true, decide_eq_true_eq] at hok; exact hok.1.2) bj.1 bj.2)
            exact of_decide_eq_true this
          obtain ⟨id, d1, d2⟩ := c5 i _ e2 e5 hq
          have hm : id ∈ ((eIds y r).flatMap (fun i => (rgN (bd y j).1 (bd y j).2).flatMap (fun q => bR i q))).eraseDups := by
            rw [List.mem_eraseDups, List.mem_flatMap]
            refine ⟨i, hi, ?_⟩
            rw [List.mem_flatMap]
            exact ⟨_, rgN_m (by unfold okR at hok; simp only [Bool.and_eq_true, decide_eq_true_eq] at hok; exact hok.1.2) bj.1 bj.2, d1⟩
          have hcell : g.2.2.2.2.2 (vA σ r).toNat (vA σ j).toNat = some id := by rw [er]; exact d2
          split at he
          · rename_i e9
            rw [e9] at hm
            cases hm
          · rename_i i9 e9
            rw [e9] at hm
            have := List.mem_singleton.mp hm
            subst this
            cases he
            have hk := kE_r h (id : Int)
            refine ⟨σ, agree_rf, puO_r h hr hj hk.1 ?_, Nat.le_refl _, hk.1, ?_⟩
            · show g.2.2.2.2.2 _ _ = some (vA σ (0, (id : Int))).toNat
              rw [show vA σ (0, (id : Int)) = id from hk.2, hcell]
              rfl
            · show Sum.inr (Sum.inr _) = Sum.inr (Sum.inr (some (vA σ (0, (id : Int))).toNat))
              rw [show vA σ (0, (id : Int)) = id from hk.2, hcell]
              rfl
          · rename_i i9 l9 hne e9
            rw [e9] at hm
            cases he
            have hid : id < 185 := bR_lt d1
            exact frO_r h hr hj (z := (id : Int)) (by omega) (by omega) (Or.inr ⟨id, hm, rfl⟩) (fun a => Sum.inr (Sum.inr a)) (fun N => Iff.rfl) (fun σ' hz => by show Sum.inr (Sum.inr (some (vA σ' (y.1.length, 0)).toNat)) = Sum.inr (Sum.inr (g.2.2.2.2.2 _ _)); rw [vA0, hz, hcell]; rfl) (by show g.2.2.2.2.2 _ _ = g.2.2.2.2.2 _ _; rfl)
        · cases he
      · cases he
end
