/-! the law's two readers, 1: what a text says -/
def tkF (c : Int) : Int := if c = 110 then 0 else if c = 100 then 1 else if c = 98 then 2 else if c = 97 then 3 else if c = 104 then 4 else if c = 117 then 5 else if c = 115 then 6 else if c = 116 then 7 else if c = 121 then 8 else -1
def muS (c : Int) : Int := if c = 42 then 4 else if c = 47 then 5 else if c = 37 then 6 else 0
def adS (c : Int) : Int := if c = 43 then 2 else if c = 45 then 3 else 0
def cmS (c : Int) : Int := if c = 60 then 7 else if c = 62 then 8 else if c = 61 then 9 else 0
/-- a fault (0: none), the place behind, the codes: an operation and a value each -/
abbrev RR : Type := Int × Nat × List (Int × Int)
def nmS (sg : Nat → Int) : Nat → Nat → Int → Int × Nat × Int
  | 0, p, v => if 48 ≤ sg p ∧ sg p ≤ 57 then (-1000 * 2 - (p : Int), p, v) else (0, p, v)
  | r + 1, p, v => if 48 ≤ sg p ∧ sg p ≤ 57 then nmS sg r (p + 1) (10 * v + sg p - 48) else (0, p, v)
def rcat (l : List (Int × Int)) (q : RR) : RR := (q.1, q.2.1, l ++ q.2.2)
def rsq (r : RR) (k : Nat → Nat → RR) : RR := if r.1 = 0 then rcat r.2.2 (k r.2.1 r.2.2.length) else r
def rbad (n : Int) (p : Nat) : RR := (-1000 * n - (p : Int), p, [])
def rend (c : Int) (sg : Nat → Int) (q : RR) : RR := if q.1 = 0 then (if sg q.2.1 = c then (0, q.2.1 + 1, q.2.2) else rbad 1 q.2.1) else q
def rlop (op : Int) (n : Nat) (q : RR) (k : Nat → Nat → RR) : RR := if q.1 = 0 then rcat ((op, ((n + 1 + q.2.2.length : Nat) : Int)) :: q.2.2) (k q.2.1 (n + 1 + q.2.2.length)) else q
/-- kinds: 0 factor, 1 product, 2 sum, 3 comparison, 4 piece, 5 part, 6 choice; 7 to 10 the loops of 1, 2, 5, 6 -/
def stK (f : Nat → Nat → Nat → Nat → RR) (sg : Nat → Int) (k o p n : Nat) : RR := match k with
  | 0 => if sg p = 91 then (if 6 ≤ o then rbad 5 p else rend 93 sg (f 2 (o + 1) (p + 1) n)) else if 0 ≤ tkF (sg p) then (0, p + 1, [(1, tkF (sg p))]) else if 48 ≤ sg p ∧ sg p ≤ 57 then ((nmS sg 5 p 0).1, (nmS sg 5 p 0).2.1, [(0, (nmS sg 5 p 0).2.2)]) else rbad 1 p
  | 1 => rsq (f 0 o p n) (fun p' m => f 7 o p' (n + m))
  | 2 => rsq (f 1 o p n) (fun p' m => f 8 o p' (n + m))
  | 3 => rsq (f 2 o p n) (fun p1 m => if cmS (sg p1) = 0 then rbad 1 p1 else rsq (f 2 o (p1 + 1) (n + m)) (fun p2 _ => (0, p2, [(cmS (sg p1), 0)])))
  | 4 => if sg p = 33 then (if 6 ≤ o then rbad 5 p else rsq (f 4 (o + 1) (p + 1) n) (fun p' _ => (0, p', [(10, 0)]))) else if sg p = 40 then (if 6 ≤ o then rbad 5 p else rend 41 sg (f 6 (o + 1) (p + 1) n)) else f 3 o p n
  | 5 => rsq (f 4 o p n) (fun p' m => f 9 o p' (n + m))
  | 6 => rsq (f 5 o p n) (fun p' m => f 10 o p' (n + m))
  | 7 => if muS (sg p) = 0 then (0, p, []) else rsq (f 0 o (p + 1) n) (fun p' m => rcat [(muS (sg p), 0)] (f 7 o p' (n + m + 1)))
  | 8 => if adS (sg p) = 0 then (0, p, []) else rsq (f 1 o (p + 1) n) (fun p' m => rcat [(adS (sg p), 0)] (f 8 o p' (n + m + 1)))
  | 9 => if sg p = 38 then rlop 11 n (f 4 o (p + 1) (n + 1)) (fun p' m => f 9 o p' m) else (0, p, [])
  | _ => if sg p = 124 then rlop 12 n (f 5 o (p + 1) (n + 1)) (fun p' m => f 10 o p' m) else (0, p, [])
def prsS (sg : Nat → Int) : Nat → Nat → Nat → Nat → Nat → RR
  | 0, _, _, p, _ => rbad 1 p
  | r + 1, k, o, p, n => stK (prsS sg r) sg k o p n
theorem rsq_ok {r : RR} {k : Nat → Nat → RR} (h : (rsq r k).1 = 0) : r.1 = 0 ∧ (k r.2.1 r.2.2.length).1 = 0 ∧ rsq r k = (0, (k r.2.1 r.2.2.length).2.1, r.2.2 ++ (k r.2.1 r.2.2.length).2.2) := by
  unfold rsq at h ⊢
  by_cases e : r.1 = 0
  · rw [if_pos e] at h ⊢
    exact ⟨e, h, by unfold rcat at h ⊢; dsimp only at h; rw [h]⟩
  · rw [if_neg e] at h
    exact absurd h e
theorem rsq_y {r : RR} {k : Nat → Nat → RR} (h : r.1 = 0) : rsq r k = rcat r.2.2 (k r.2.1 r.2.2.length) := if_pos h
theorem rsq_n {r : RR} {k : Nat → Nat → RR} (h : ¬ r.1 = 0) : rsq r k = r := if_neg h
theorem rbad_n {n : Int} {p : Nat} (hn : 1 ≤ n) : ¬ (rbad n p).1 = 0 := by
  show ¬ -1000 * n - (p : Int) = 0
  omega
def rkK (k : Nat) : Nat := if k ≤ 6 then k else 0
/-- what is read well ends behind its beginning, and has no more codes than signs -/
def advP (L p : Nat) (k : Nat) (q : RR) : Prop := q.1 = 0 → q.2.1 ≤ L ∧ p + q.2.2.length ≤ q.2.1 ∧ (k ≤ 6 → p < q.2.1)
theorem nm_adv {sg : Nat → Int} {L : Nat} (hs : ∀ p, L ≤ p → sg p = -1) : ∀ (r p : Nat) (v : Int), p ≤ L → p ≤ (nmS sg r p v).2.1 ∧ (nmS sg r p v).2.1 ≤ L ∧ (48 ≤ sg p ∧ sg p ≤ 57 → 0 < r → p < (nmS sg r p v).2.1)
  | 0, p, v, hp => by
    rw [nmS]
    split
    · exact ⟨Nat.le_refl _, hp, fun _ z => absurd z (by decide)⟩
    · exact ⟨Nat.le_refl _, hp, fun _ z => absurd z (by decide)⟩
  | r + 1, p, v, hp => by
    rw [nmS]
    split
    · rename_i h
      have h1 : p < L := by
        by_cases z : p < L
        · exact z
        · have := hs p (by omega)
          omega
      have := nm_adv hs r (p + 1) (10 * v + sg p - 48) (by omega)
      exact ⟨by omega, this.2.1, fun _ _ => by omega⟩
    · rename_i h
      exact ⟨Nat.le_refl _, hp, fun z => absurd z h⟩
theorem nm_bd {sg : Nat → Int} (hb : ∀ p, -1 ≤ sg p ∧ sg p ≤ 255) : ∀ (r p : Nat) (v : Int) (w : Int), r ≤ 5 → 0 ≤ v → v < w → 1 ≤ w → 0 ≤ (nmS sg r p v).2.2 ∧ (nmS sg r p v).2.2 < w * 10 ^ r
  | 0, p, v, w, _, h0, h1, h2 => by
    rw [nmS]
    split
    · exact ⟨h0, by simpa using h1⟩
    · exact ⟨h0, by simpa using h1⟩
  | r + 1, p, v, w, hr, h0, h1, h2 => by
    have hp : (1 : Int) ≤ 10 ^ r := by have : (0 : Int) < 10 ^ r := Int.pow_pos (by decide); omega
    rw [nmS]
    split
    · rename_i h
      have := nm_bd hb r (p + 1) (10 * v + sg p - 48) (w * 10) (by omega) (by omega) (by omega) (by omega)
      rw [Int.pow_succ, Int.mul_comm (10 ^ r) 10, ← Int.mul_assoc]
      exact this
    · refine ⟨h0, ?_⟩
      have h3 : w * 1 ≤ w * 10 ^ (r + 1) := Int.mul_le_mul_of_nonneg_left (by rw [Int.pow_succ]; omega) (by omega)
      show v < w * 10 ^ (r + 1)
      omega
theorem rd_adv {sg : Nat → Int} {L : Nat} (hs : ∀ p, L ≤ p → sg p = -1) : ∀ (r k o p n : Nat), p ≤ L → advP L p k (prsS sg r k o p n)
  | 0, k, o, p, n, hp => fun h => absurd h (rbad_n (by decide))
  | r + 1, k, o, p, n, hp => by
    have ih := rd_adv hs r
    have lt : ∀ p, sg p ≠ -1 → p < L := fun p h => by
      by_cases z : p < L
      · exact z
      · exact absurd (hs p (by omega)) h
    have sq : ∀ (k1 k2 o1 o2 n1 : Nat) (p1 : Nat) (g : Nat → Nat → RR), p1 ≤ L → k1 ≤ 6 → (∀ p' m, p1 < p' → p' ≤ L → advP L p' 9 (g p' m)) → advP L p1 0 (rsq (prsS sg r k1 o1 p1 n1) g) := by
      intro k1 k2 o1 o2 n1 p1 g h1 h2 hg h
      obtain ⟨e1, e2, e3⟩ := rsq_ok h
      obtain ⟨a1, a2, a3⟩ := ih k1 o1 p1 n1 h1 e1
      obtain ⟨b1, b2, -⟩ := hg _ _ (a3 h2) a1 e2
      rw [e3]
      have a3 := a3 h2
      exact ⟨b1, by show p1 + ((prsS sg r k1 o1 p1 n1).2.2 ++ _).length ≤ (g _ _).2.1; simp only [List.length_append]; omega, fun _ => by show p1 < (g _ _).2.1; omega⟩
    have wk : ∀ {p k q}, advP L p 0 q → advP L p k q := fun {p k q} h e => ⟨(h e).1, (h e).2.1, fun _ => (h e).2.2 (by decide)⟩
    have en : ∀ (c : Int) (k1 o1 n1 p1 : Nat), p1 ≤ L → k1 ≤ 6 → c ≠ -1 → advP L p1 0 (rend c sg (prsS sg r k1 o1 p1 n1)) := by
      intro c k1 o1 n1 p1 h1 h2 hc
      unfold rend
      split
      · rename_i e
        split
        · rename_i e2
          intro _
          obtain ⟨a1, a2, a3⟩ := ih k1 o1 p1 n1 h1 e
          have := lt _ (by rw [e2]; exact hc)
          exact ⟨by show _ + 1 ≤ L; omega, by show p1 + (prsS sg r k1 o1 p1 n1).2.2.length ≤ (prsS sg r k1 o1 p1 n1).2.1 + 1; omega, fun _ => by show p1 < (prsS sg r k1 o1 p1 n1).2.1 + 1; omega⟩
        · exact fun h => absurd h (rbad_n (by decide))
      · rename_i e
        exact fun h => absurd h e
    have lo : ∀ (c : Nat → Int) (k1 o1 n1 p1 : Nat) (g : Nat → Nat → RR), p1 < L → k1 ≤ 6 → (∀ p' m, p1 < p' → p' ≤ L → advP L p' 9 (g p' m)) → advP L p1 0 (rsq (prsS sg r k1 o1 (p1 + 1) n1) (fun p' m => rcat [(c p', 0)] (g p' m))) := by
      intro c k1 o1 n1 p1 g h1 h2 hg h
      obtain ⟨e1, e2, e3⟩ := rsq_ok h
      obtain ⟨a1, a2, a3⟩ := ih k1 o1 (p1 + 1) n1 (by omega) e1
      have a3 := a3 h2
      obtain ⟨b1, b2, -⟩ := hg _ _ (by omega) a1 e2
      rw [e3]
      refine ⟨b1, ?_, fun _ => ?_⟩
      · show p1 + (_ ++ ([_] ++ _)).length ≤ _
        simp only [List.length_append, List.length_cons, List.length_nil]
        show _ ≤ (g _ _).2.1
        omega
      · show p1 < (g _ _).2.1
        omega
    have lp : ∀ (op : Int) (k1 o1 n1 p1 : Nat) (g : Nat → Nat → RR), p1 < L → k1 ≤ 6 → (∀ p' m, p1 < p' → p' ≤ L → advP L p' 9 (g p' m)) → advP L p1 0 (rlop op n1 (prsS sg r k1 o1 (p1 + 1) (n1 + 1)) g) := by
      intro op k1 o1 n1 p1 g h1 h2 hg
      unfold rlop
      split
      · rename_i e
        obtain ⟨a1, a2, a3⟩ := ih k1 o1 (p1 + 1) (n1 + 1) (by omega) e
        have a3 := a3 h2
        intro h
        obtain ⟨b1, b2, -⟩ := hg _ (n1 + 1 + (prsS sg r k1 o1 (p1 + 1) (n1 + 1)).2.2.length) (show p1 < _ by omega) a1 h
        refine ⟨b1, ?_, fun _ => ?_⟩
        · show p1 + (_ :: _ ++ _).length ≤ _
          simp only [List.length_append, List.length_cons]
          show _ ≤ (g _ _).2.1
          omega
        · show p1 < (g _ _).2.1
          omega
      · rename_i e
        exact fun h => absurd h e
    have nul : ∀ p1 k1, p1 ≤ L → 7 ≤ k1 → advP L p1 k1 (0, p1, []) := fun p1 k1 h1 h2 _ => ⟨h1, Nat.le_refl _, fun z => absurd z (by omega)⟩
    show advP L p k (stK (prsS sg r) sg k o p n)
    match k with
    | 0 =>
      show advP L p 0 (if sg p = 91 then (if 6 ≤ o then _ else _) else if 0 ≤ tkF (sg p) then _ else if 48 ≤ sg p ∧ sg p ≤ 57 then _ else _)
      split
      · rename_i e
        have := lt p (by rw [e]; decide)
        split
        · exact fun h => absurd h (rbad_n (by decide))
        · intro h
          have := en 93 2 (o + 1) n (p + 1) (by omega) (by decide) (by decide) h
          exact ⟨this.1, by omega, fun _ => by have := this.2.2 (by decide); omega⟩
      split
      · rename_i e1 e
        have hne : sg p ≠ -1 := by
          intro z
          rw [z] at e
          exact absurd e (by decide)
        have := lt p hne
        exact fun _ => ⟨by show p + 1 ≤ L; omega, Nat.le_refl _, fun _ => by show p < p + 1; omega⟩
      split
      · rename_i e1 e2 e
        have h1 := nm_adv hs 5 p 0 hp
        have h2 := h1.2.2 e (by decide)
        exact fun _ => ⟨h1.2.1, by show p + 1 ≤ (nmS sg 5 p 0).2.1; omega, fun _ => h2⟩
      · exact fun h => absurd h (rbad_n (by decide))
    | 1 => exact wk (sq 0 7 o o n p _ hp (by decide) (fun p' m h1 h2 h => ⟨(ih 7 o p' (n + m) h2 h).1, (ih 7 o p' (n + m) h2 h).2.1, fun z => absurd z (by decide)⟩))
    | 2 => exact wk (sq 1 7 o o n p _ hp (by decide) (fun p' m h1 h2 h => ⟨(ih 8 o p' (n + m) h2 h).1, (ih 8 o p' (n + m) h2 h).2.1, fun z => absurd z (by decide)⟩))
    | 3 =>
      refine wk (sq 2 7 o o n p _ hp (by decide) (fun p1 m h1 h2 => ?_))
      split
      · exact fun h => absurd h (rbad_n (by decide))
      · rename_i e
        have := lt p1 (by intro z; rw [z] at e; exact e rfl)
        intro h
        obtain ⟨e1, e2, e3⟩ := rsq_ok h
        obtain ⟨a1, a2, a3⟩ := ih 2 o (p1 + 1) (n + m) (by omega) e1
        rw [e3]
        exact ⟨a1, by show p1 + (_ ++ [_]).length ≤ _; simp only [List.length_append, List.length_cons, List.length_nil]; show _ ≤ (prsS sg r 2 o (p1 + 1) (n + m)).2.1; omega, fun z => absurd z (by decide)⟩
    | 4 =>
      show advP L p 4 (if sg p = 33 then (if 6 ≤ o then _ else _) else if sg p = 40 then (if 6 ≤ o then _ else _) else _)
      split
      · rename_i e
        have := lt p (by rw [e]; decide)
        split
        · exact fun h => absurd h (rbad_n (by decide))
        · intro h
          obtain ⟨e1, e2, e3⟩ := rsq_ok h
          obtain ⟨a1, a2, a3⟩ := ih 4 (o + 1) (p + 1) n (by omega) e1
          rw [e3]
          refine ⟨a1, ?_, fun _ => ?_⟩
          · show p + (_ ++ [_]).length ≤ (prsS sg r 4 (o + 1) (p + 1) n).2.1
            simp only [List.length_append, List.length_cons, List.length_nil]
            omega
          · show p < (prsS sg r 4 (o + 1) (p + 1) n).2.1
            omega
      split
      · rename_i e
        have := lt p (by rw [e]; decide)
        split
        · exact fun h => absurd h (rbad_n (by decide))
        · intro h
          have := en 41 6 (o + 1) n (p + 1) (by omega) (by decide) (by decide) h
          exact ⟨this.1, by omega, fun _ => by have := this.2.2 (by decide); omega⟩
      · intro h
        have := ih 3 o p n hp h
        exact ⟨this.1, this.2.1, fun _ => this.2.2 (by decide)⟩
    | 5 => exact wk (sq 4 7 o o n p _ hp (by decide) (fun p' m h1 h2 h => ⟨(ih 9 o p' (n + m) h2 h).1, (ih 9 o p' (n + m) h2 h).2.1, fun z => absurd z (by decide)⟩))
    | 6 => exact wk (sq 5 7 o o n p _ hp (by decide) (fun p' m h1 h2 h => ⟨(ih 10 o p' (n + m) h2 h).1, (ih 10 o p' (n + m) h2 h).2.1, fun z => absurd z (by decide)⟩))
    | 7 =>
      show advP L p 7 (if muS (sg p) = 0 then _ else _)
      split
      · exact nul p 7 hp (by decide)
      · rename_i e
        have := lt p (by intro z; rw [z] at e; exact e rfl)
        exact wk (lo (fun _ => muS (sg p)) 0 o n p _ this (by decide) (fun p' m h1 h2 h => ⟨(ih 7 o p' (n + m + 1) h2 h).1, (ih 7 o p' (n + m + 1) h2 h).2.1, fun z => absurd z (by decide)⟩))
    | 8 =>
      show advP L p 8 (if adS (sg p) = 0 then _ else _)
      split
      · exact nul p 8 hp (by decide)
      · rename_i e
        have := lt p (by intro z; rw [z] at e; exact e rfl)
        exact wk (lo (fun _ => adS (sg p)) 1 o n p _ this (by decide) (fun p' m h1 h2 h => ⟨(ih 8 o p' (n + m + 1) h2 h).1, (ih 8 o p' (n + m + 1) h2 h).2.1, fun z => absurd z (by decide)⟩))
    | 9 =>
      show advP L p 9 (if sg p = 38 then _ else _)
      split
      · rename_i e
        have := lt p (by rw [e]; decide)
        exact wk (lp 11 4 o n p _ this (by decide) (fun p' m h1 h2 h => ⟨(ih 9 o p' m h2 h).1, (ih 9 o p' m h2 h).2.1, fun z => absurd z (by decide)⟩))
      · exact nul p 9 hp (by decide)
    | k + 10 =>
      show advP L p (k + 10) (if sg p = 124 then _ else _)
      split
      · rename_i e
        have := lt p (by rw [e]; decide)
        exact wk (lp 12 5 o n p _ this (by decide) (fun p' m h1 h2 h => ⟨(ih 10 o p' m h2 h).1, (ih 10 o p' m h2 h).2.1, fun z => absurd z (by decide)⟩))
      · exact nul p (k + 10) hp (by omega)
