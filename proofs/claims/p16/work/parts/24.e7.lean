/-! the engine, 8: writing -/
def noA (y : EY) (r j : AE) (e : (AE × AE) × EV) : Bool := (decide (eIds y e.1.1 ≠ []) && (eIds y e.1.1).all (fun i => !((eIds y r).any (fun k => decide (k = i))))) || (decide (0 ≤ (bd y e.1.2).1) && (decide ((bd y e.1.2).2 < (bd y j).1) || decide ((bd y j).2 < (bd y e.1.2).1)))
/-- the value may stand there -/
def fitV (y : EY) (r j : AE) (tag : Nat) : EV → Bool
  | .inl a => (decide (100 ≤ tag) || decide ((bd y j).1 = (bd y j).2)) && (eIds y r).all (fun i => decide ((bI i (bd y j).1.toNat).1 ≤ (bd y a).1) && decide ((bd y a).2 ≤ (bI i (bd y j).1.toNat).2))
  | .inr (.inl a) => decide (-9223372036854775808 ≤ (bd y a).1) && decide ((bd y a).2 ≤ 9223372036854775807)
  | .inr (.inr a) => decide (eIds y a ≠ []) && (eIds y a).all (fun v => decide (v < nO)) && (eIds y r).all (fun i => (rgN (bd y j).1 (bd y j).2).all (fun q => decide (bR i q = []) || (eIds y a).all (fun v => (bR i q).any (fun w => decide (w = v)))))
def inMr (M : MO) (i : Nat) (p : Int × Int) : Bool := M.any (fun e => decide (e.1 = i) && (match e.2 with
  | none => true
  | some q => decide (p.1 = (q : Nat)) && decide (p.2 = (q : Nat))))
/-- not a cell that is kept by hand -/
def noW (y : EY) (r : AE) : Bool := (eIds y r).all (fun i => !(wIds.any (fun w => w == i)))
def ewr (tag : Nat) (M : MO) (y : EY) (r j : AE) (v : EV) : Option EY := if okR y r j tag && (fitV y r j tag v && ((eIds y r).all (fun i => inMr M i (bd y j)) && noW y r)) then some (y.1, ((r, j), v) :: y.2.1.filter (noA y r j), y.2.2) else none
def wrC (g : AH) (a j : Nat) : AV → AH
  | .inl z => (g.1, g.2.1, g.2.2.1, up2 g.2.2.2.1 a j z, g.2.2.2.2.1, g.2.2.2.2.2)
  | .inr (.inl z) => (g.1, g.2.1, g.2.2.1, g.2.2.2.1, up2 g.2.2.2.2.1 a j z, g.2.2.2.2.2)
  | .inr (.inr r) => (g.1, g.2.1, g.2.2.1, g.2.2.2.1, g.2.2.2.2.1, up2 g.2.2.2.2.2 a j r)
section
variable {σ : Nat → Int} {y : EY} {g : AH}
theorem up2_same {α : Type} (f : Nat → Nat → α) (a j : Nat) (v : α) : up2 f a j v a j = v := by unfold up2; exact if_pos ⟨rfl, rfl⟩
theorem up2_ne {α : Type} (f : Nat → Nat → α) {a j x z : Nat} (v : α) (h : ¬ (x = a ∧ z = j)) : up2 f a j v x z = f x z := by unfold up2; exact if_neg h
theorem wrC_same (g : AH) (a j : Nat) (w : AV) : cellH (wrC g a j w) a j w := by
  match w with
  | .inl z => exact up2_same _ _ _ _
  | .inr (.inl z) => exact up2_same _ _ _ _
  | .inr (.inr z) => exact up2_same _ _ _ _
theorem wrC_ne (g : AH) {a j x z : Nat} (w u : AV) (h : ¬ (x = a ∧ z = j)) (hc : cellH g x z u) : cellH (wrC g a j w) x z u := by
  match w, u, hc with
  | .inl w, .inl u, hc => exact (up2_ne _ _ h).trans hc
  | .inl w, .inr (.inl u), hc => exact hc
  | .inl w, .inr (.inr u), hc => exact hc
  | .inr (.inl w), .inl u, hc => exact hc
  | .inr (.inl w), .inr (.inl u), hc => exact (up2_ne _ _ h).trans hc
  | .inr (.inl w), .inr (.inr u), hc => exact hc
  | .inr (.inr w), .inl u, hc => exact hc
  | .inr (.inr w), .inr (.inl u), hc => exact hc
  | .inr (.inr w), .inr (.inr u), hc => exact (up2_ne _ _ h).trans hc
theorem inMr_r {M : MO} {i : Nat} {p : Int × Int} {z : Int} (h : inMr M i p = true) (h1 : p.1 ≤ z) (h2 : z ≤ p.2) : inM M i z.toNat = true := by
  unfold inMr at h
  unfold inM
  obtain ⟨e, he, h⟩ := List.any_eq_true.mp h
  refine List.any_eq_true.mpr ⟨e, he, ?_⟩
  rw [Bool.and_eq_true] at h ⊢
  refine ⟨h.1, ?_⟩
  obtain ⟨-, h⟩ := h
  cases hq : e.2 with
  | none => rfl
  | some q =>
    rw [hq] at h
    simp only [Bool.and_eq_true, decide_eq_true_eq] at h ⊢
    omega
theorem wrC_fr {M : MO} {g0 g : AH} {a j : Nat} (w : AV) (hm : inM M a j = true) (h : eM M g0 g) : eM M g0 (wrC g a j w) := by
  obtain ⟨h1, h2, h3, h4⟩ := h
  have key : ∀ x z, inM M x z = false → ¬ (x = a ∧ z = j) := fun x z e c => by rw [c.1, c.2, hm] at e; cases e
  match w with
  | .inl w => exact ⟨h1, h2, h3, fun x z e => ⟨(up2_ne _ _ (key x z e)).trans (h4 x z e).1, (h4 x z e).2⟩⟩
  | .inr (.inl w) => exact ⟨h1, h2, h3, fun x z e => ⟨(h4 x z e).1, (up2_ne _ _ (key x z e)).trans (h4 x z e).2.1, (h4 x z e).2.2⟩⟩
  | .inr (.inr w) => exact ⟨h1, h2, h3, fun x z e => ⟨(h4 x z e).1, (h4 x z e).2.1, (up2_ne _ _ (key x z e)).trans (h4 x z e).2.2⟩⟩
theorem noA_r (h : eY σ y g) {r j : AE} {i : Nat} (hi : i ∈ eIds y r) (hr : vA σ r = (i : Nat)) (hj : j.1 < y.1.length) (hj0 : 0 ≤ vA σ j) {e : (AE × AE) × EV} (h1 : e.1.1.1 < y.1.length) (h2 : e.1.2.1 < y.1.length) (hn : noA y r j e = true) : ¬ ((vA σ e.1.1).toNat = (vA σ r).toNat ∧ (vA σ e.1.2).toNat = (vA σ j).toNat) := by
  unfold noA at hn
  rw [Bool.or_eq_true] at hn
  rintro ⟨c1, c2⟩
  rcases hn with hn | hn
  · rw [Bool.and_eq_true, decide_eq_true_eq] at hn
    obtain ⟨i2, m2, e2⟩ := eIds_r h h1 hn.1
    have := List.all_eq_true.mp hn.2 i2 m2
    rw [Bool.not_eq_true', ← Bool.not_eq_true, List.any_eq_true] at this
    exact this ⟨i, hi, decide_eq_true (by omega)⟩
  · simp only [Bool.and_eq_true, Bool.or_eq_true, decide_eq_true_eq] at hn
    have b1 := bd_r h h2
    have b2 := bd_r h hj
    omega
theorem ewr_r (h : eY σ y g) (hH : eH g) {tag : Nat} {M : MO} {r j : AE} {v : EV} (hr : r.1 < y.1.length) (hj : j.1 < y.1.length) (hv : okV y.1.length v) {y' : EY} (he : ewr tag M y r j v = some y') : ((g.2.2.1 (vA σ r).toNat).1 = tag ∧ (vA σ j).toNat < (g.2.2.1 (vA σ r).toNat).2 ∧ (vA σ r).toNat < g.1 ∧ 0 ≤ vA σ j ∧ 0 ≤ vA σ r) ∧ sameN y y' ∧ eY σ y' (wrC g (vA σ r).toNat (vA σ j).toNat (vV σ v)) ∧ eH (wrC g (vA σ r).toNat (vA σ j).toNat (vV σ v)) ∧ ∀ g0, eM M g0 g → eM M g0 (wrC g (vA σ r).toNat (vA σ j).toNat (vV σ v)) := by
  unfold ewr at he
  split at he
  · rename_i hc
    rw [Bool.and_eq_true, Bool.and_eq_true, Bool.and_eq_true] at hc
    obtain ⟨hok, hfit, hM, hnW⟩ := hc
    cases he
    obtain ⟨i, hi, e1, e2, e3, e4, e5⟩ := okR_r h hr hj hok
    have er : (vA σ r).toNat = i := by omega
    have bj := bd_r h hj
    obtain ⟨c1, c2, c3, c4, c5, cW⟩ := hH
    have hiW : i ∉ wIds := by
      have h7 := List.all_eq_true.mp hnW i hi
      rw [Bool.not_eq_true', ← Bool.not_eq_true, List.any_eq_true] at h7
      exact fun m7 => h7 ⟨i, m7, beq_self_eq_true i⟩
    have hW : ∀ w : AV, eW (wrC g i (vA σ j).toNat w) := fun w => eW_of (fun a ha => by
      have hne : a ≠ i := fun e => hiW (e ▸ ha)
      match w with
      | .inl w => exact funext (fun z => up2_ne _ _ (fun c => hne c.1))
      | .inr (.inl w) => rfl
      | .inr (.inr w) => rfl) cW
    have hmm : inM M i (vA σ j).toNat = true := inMr_r (List.all_eq_true.mp hM i hi) bj.1 bj.2
    refine ⟨⟨by rw [er, c2 i e2]; exact e3, by rw [er, c2 i e2]; exact e5, by rw [er, c1]; exact e2, e4, by omega⟩, rfl, ?_, ?_, fun g0 hg => wrC_fr _ (by rw [er]; exact hmm) hg⟩
    · obtain ⟨hG, hO, hF, hD, hC⟩ := h
      refine ⟨hG, fun e he => ?_, hF, hD, hC⟩
      rcases List.mem_cons.mp he with rfl | he
      · exact ⟨hr, hj, hv, wrC_same _ _ _ _⟩
      · have hm := List.mem_filter.mp he
        obtain ⟨o1, o2, o3, o4⟩ := hO e hm.1
        exact ⟨o1, o2, o3, wrC_ne _ _ _ (noA_r ⟨hG, hO, hF, hD, hC⟩ hi e1 hj e4 o1 o2 hm.2) o4⟩
    · rw [er]
      match v, hv, hfit with
      | .inl a, hv, hfit =>
        unfold fitV at hfit
        rw [Bool.and_eq_true, Bool.or_eq_true, decide_eq_true_eq, decide_eq_true_eq] at hfit
        have hb := List.all_eq_true.mp hfit.2 i hi
        rw [Bool.and_eq_true, decide_eq_true_eq, decide_eq_true_eq] at hb
        have ba := bd_r h (a := a) hv
        have hbe : bI i (bd y j).1.toNat = bI i (vA σ j).toNat := by
          rcases hfit.1 with hk | hk
          · unfold bI
            rw [e3, if_pos hk, if_pos hk]
          · have : vA σ j = (bd y j).1 := by omega
            rw [this]
        refine ⟨c1, c2, fun a9 j9 h1 h2 => ?_, c4, c5, hW (vV σ (.inl a))⟩
        show (bI a9 j9).1 ≤ up2 g.2.2.2.1 i (vA σ j).toNat (vA σ a) a9 j9 ∧ up2 g.2.2.2.1 i (vA σ j).toNat (vA σ a) a9 j9 ≤ (bI a9 j9).2
        by_cases hx : a9 = i ∧ j9 = (vA σ j).toNat
        · rw [hx.1, hx.2, up2_same, ← hbe]
          omega
        · rw [up2_ne _ _ hx]
          exact c3 a9 j9 h1 h2
      | .inr (.inl a), hv, hfit =>
        unfold fitV at hfit
        rw [Bool.and_eq_true, decide_eq_true_eq, decide_eq_true_eq] at hfit
        have ba := bd_r h (a := a) hv
        refine ⟨c1, c2, c3, fun a9 j9 h1 h2 => ?_, c5, hW (vV σ (.inr (.inl a)))⟩
        show _ ≤ up2 g.2.2.2.2.1 i (vA σ j).toNat (vA σ a) a9 j9 ∧ up2 g.2.2.2.2.1 i (vA σ j).toNat (vA σ a) a9 j9 ≤ _
        by_cases hx : a9 = i ∧ j9 = (vA σ j).toNat
        · rw [hx.1, hx.2, up2_same]
          omega
        · rw [up2_ne _ _ hx]
          exact c4 a9 j9 h1 h2
      | .inr (.inr a), hv, hfit =>
        unfold fitV at hfit
        rw [Bool.and_eq_true, Bool.and_eq_true, decide_eq_true_eq] at hfit
        obtain ⟨⟨f1, -⟩, f3⟩ := hfit
        obtain ⟨va, m1, m2⟩ := eIds_r h (r := a) hv f1
        refine ⟨c1, c2, c3, c4, fun a9 j9 h1 h2 h3 => ?_, hW (vV σ (.inr (.inr a)))⟩
        show ∃ i' ∈ bR a9 j9, up2 g.2.2.2.2.2 i (vA σ j).toNat (some (vA σ a).toNat) a9 j9 = some i'
        by_cases hx : a9 = i ∧ j9 = (vA σ j).toNat
        · rw [hx.1, hx.2] at h3 ⊢
          rw [up2_same]
          have hl0 : 0 ≤ (bd y j).1 := by unfold okR at hok; simp only [Bool.and_eq_true, decide_eq_true_eq] at hok; exact hok.1.2
          have f4 := List.all_eq_true.mp (List.all_eq_true.mp f3 i hi) _ (rgN_m hl0 bj.1 bj.2)
          rw [Bool.or_eq_true, decide_eq_true_eq] at f4
          rcases f4 with f4 | f4
          · exact absurd f4 h3
          · obtain ⟨w, w1, w2⟩ := List.any_eq_true.mp (List.all_eq_true.mp f4 va m1)
            have w2 := of_decide_eq_true w2
            exact ⟨w, w1, by rw [w2]; congr 1; omega⟩
        · rw [up2_ne _ _ hx]
          exact c5 a9 j9 h1 h2 h3
  · cases he
end
