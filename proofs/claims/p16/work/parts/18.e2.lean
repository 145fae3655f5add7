/-! the engine, 2: arithmetic -/
section
variable {σ : Nat → Int} {y : EY} {g : AH}
/-- the type's bounds: 0 int, 1 long -/
def tyB (L : Bool) : Int × Int := match L with
  | false => (-2147483648, 2147483647)
  | true => (-9223372036854775808, 9223372036854775807)
/-- bounds of an operation's answer, from bounds of its two sides (a constant: equal bounds) -/
def opB (op : Nat) (p q : Int × Int) : Int × Int := match op with
  | 0 | 20 => (p.1 + q.1, p.2 + q.2)
  | 1 | 21 => (p.1 - q.2, p.2 - q.1)
  | 2 | 22 => (min (min (p.1 * q.1) (p.1 * q.2)) (min (p.2 * q.1) (p.2 * q.2)), max (max (p.1 * q.1) (p.1 * q.2)) (max (p.2 * q.1) (p.2 * q.2)))
  | 3 | 23 => if q.1 = q.2 ∧ 0 < q.1 then (Int.tdiv p.1 q.1, Int.tdiv p.2 q.1) else (-9223372036854775809, 0)
  | 4 | 24 => if q.1 = q.2 ∧ 0 < q.1 then ((if 0 ≤ p.1 then 0 else 1 - q.1), q.1 - 1) else (-9223372036854775809, 0)
  | 5 => if 0 ≤ p.1 ∧ 0 ≤ q.1 then (0, min p.2 q.2) else if 0 ≤ p.1 then (0, p.2) else if 0 ≤ q.1 then (0, q.2) else (-9223372036854775809, 0)
  | 8 => if p.1 = 1 ∧ p.2 = 1 ∧ 0 ≤ q.1 ∧ q.2 ≤ 30 then (2 ^ q.1.toNat, 2 ^ q.2.toNat) else (-9223372036854775809, 0)
  | _ => (-9223372036854775809, 0)
theorem mul_lo {a b x u v : Int} (h1 : a ≤ x) (h2 : x ≤ b) (hv : 0 ≤ v) : a * v ≤ x * v ∧ x * v ≤ b * v := ⟨Int.mul_le_mul_of_nonneg_right h1 hv, Int.mul_le_mul_of_nonneg_right h2 hv⟩
theorem mul_bd {a b c d x z : Int} (h1 : a ≤ x) (h2 : x ≤ b) (h3 : c ≤ z) (h4 : z ≤ d) : min (min (a * c) (a * d)) (min (b * c) (b * d)) ≤ x * z ∧ x * z ≤ max (max (a * c) (a * d)) (max (b * c) (b * d)) := by
  -- x*z between a*z and b*z (either way), each between its ends
  have e1 : ∀ w : Int, (min (w * c) (w * d) ≤ w * z ∧ w * z ≤ max (w * c) (w * d)) := by
    intro w
    rcases Int.le_total 0 w with hw | hw
    · have p1 := Int.mul_le_mul_of_nonneg_left h3 hw
      have p2 := Int.mul_le_mul_of_nonneg_left h4 hw
      omega
    · have p1 := Int.mul_le_mul_of_nonpos_left hw h3
      have p2 := Int.mul_le_mul_of_nonpos_left hw h4
      omega
  have e2 : min (a * z) (b * z) ≤ x * z ∧ x * z ≤ max (a * z) (b * z) := by
    rcases Int.le_total 0 z with hz | hz
    · have p1 := Int.mul_le_mul_of_nonneg_right h1 hz
      have p2 := Int.mul_le_mul_of_nonneg_right h2 hz
      omega
    · have p1 := Int.mul_le_mul_of_nonpos_right h1 hz
      have p2 := Int.mul_le_mul_of_nonpos_right h2 hz
      omega
  have ea := e1 a
  have eb := e1 b
  omega
theorem tdiv_mono {a b y : Int} (h : a ≤ b) (hy : 0 < y) : Int.tdiv a y ≤ Int.tdiv b y := by
  rcases Int.le_total 0 a with ha | ha
  · rw [Int.tdiv_eq_ediv_of_nonneg ha, Int.tdiv_eq_ediv_of_nonneg (by omega)]
    exact Int.ediv_le_ediv hy h
  · rcases Int.le_total 0 b with hb | hb
    · have p1 : 0 ≤ Int.tdiv b y := Int.tdiv_nonneg hb (by omega)
      have p2 : Int.tdiv a y ≤ 0 := by
        have := Int.tdiv_nonneg (a := -a) (b := y) (by omega) (by omega)
        rw [Int.neg_tdiv] at this
        omega
      omega
    · have e1 : Int.tdiv a y = - Int.tdiv (-a) y := by rw [Int.neg_tdiv, Int.neg_neg]
      have e2 : Int.tdiv b y = - Int.tdiv (-b) y := by rw [Int.neg_tdiv, Int.neg_neg]
      rw [e1, e2, Int.tdiv_eq_ediv_of_nonneg (by omega), Int.tdiv_eq_ediv_of_nonneg (by omega)]
      have := Int.ediv_le_ediv (a := -b) (b := -a) hy (by omega)
      omega
theorem trem_bd {x y : Int} (hy : 0 < y) : (0 ≤ x → 0 ≤ x - Int.tdiv x y * y) ∧ 1 - y ≤ x - Int.tdiv x y * y ∧ x - Int.tdiv x y * y ≤ y - 1 := by
  have e : x - Int.tdiv x y * y = Int.tmod x y := by
    rw [Int.tmod_def, Int.mul_comm]
  rw [e]
  have h1 := Int.tmod_lt_of_pos x hy
  have h2 : 0 ≤ x → 0 ≤ Int.tmod x y := fun h => Int.tmod_nonneg y h
  refine ⟨h2, ?_, by omega⟩
  rcases Int.le_total 0 x with hx | hx
  · have := h2 hx; omega
  · have h3 := Int.tmod_lt_of_pos (-x) hy
    rw [Int.neg_tmod] at h3
    omega
theorem and_bd {a b : Int} (ha : rg32 a) (hb : rg32 b) (h : 0 ≤ a) : 0 ≤ (Int32.ofInt a &&& Int32.ofInt b).toInt ∧ (Int32.ofInt a &&& Int32.ofInt b).toInt ≤ a := by
  have e1 : (Int32.ofInt a).toInt = a := t32 ha
  generalize Int32.ofInt b = y at *
  generalize Int32.ofInt a = x at *
  subst e1
  have hx : x.toBitVec.msb = false := by
    have : x.toInt = x.toBitVec.toInt := rfl
    rw [this] at h
    rw [BitVec.msb_eq_toInt]
    exact decide_eq_false (by omega)
  have hm : (x &&& y).toBitVec.msb = false := by
    rw [Int32.toBitVec_and, BitVec.msb_and, hx, Bool.false_and]
  have e2 : (x &&& y).toInt = ((x &&& y).toBitVec.toNat : Int) := BitVec.toInt_eq_toNat_of_msb hm
  have e3 : x.toInt = (x.toBitVec.toNat : Int) := BitVec.toInt_eq_toNat_of_msb hx
  rw [e2, e3, Int32.toBitVec_and, BitVec.toNat_and]
  have := Nat.and_le_left (n := x.toBitVec.toNat) (m := y.toBitVec.toNat)
  omega
theorem and_bd2 {a b : Int} (ha : rg32 a) (hb : rg32 b) (h : 0 ≤ b) : 0 ≤ (Int32.ofInt a &&& Int32.ofInt b).toInt ∧ (Int32.ofInt a &&& Int32.ofInt b).toInt ≤ b := by
  have := and_bd hb ha h
  rwa [Int32.and_comm] at this
theorem shl1_all : ∀ n : Nat, n < 31 → (Int32.ofInt 1 <<< (Int32.ofInt n &&& 31)).toInt = 2 ^ n := by decide +kernel
theorem shl1 {b : Int} (h0 : 0 ≤ b) (h1 : b ≤ 30) : (Int32.ofInt 1 <<< (Int32.ofInt b &&& 31)).toInt = 2 ^ b.toNat := by
  have := shl1_all b.toNat (by omega)
  rwa [Int.toNat_of_nonneg h0] at this
theorem opB_r {op : Nat} {p q : Int × Int} {a b : Int} (a1 : p.1 ≤ a) (a2 : a ≤ p.2) (b1 : q.1 ≤ b) (b2 : b ≤ q.2) (ra : isLo op = false → rg32 a ∧ rg32 b) (h1 : (tyB (isLo op)).1 ≤ (opB op p q).1) (h2 : (opB op p q).2 ≤ (tyB (isLo op)).2) : (opB op p q).1 ≤ opf op a b ∧ opf op a b ≤ (opB op p q).2 := by
  match op, ra, h1, h2 with
  | 0, ra, h1, h2 =>
    have h1 : (-2147483648 : Int) ≤ (opB 0 p q).1 := h1
    have h2 : (opB 0 p q).2 ≤ (2147483647 : Int) := h2
    simp only [opB, opf] at h1 h2 ⊢
    rw [w32_id (by unfold rg32; omega)]
    omega
  | 20, ra, h1, h2 =>
    have h1 : (-9223372036854775808 : Int) ≤ (opB 20 p q).1 := h1
    have h2 : (opB 20 p q).2 ≤ (9223372036854775807 : Int) := h2
    simp only [opB, opf] at h1 h2 ⊢
    rw [w64_id (by unfold rg64; omega)]
    omega
  | 1, ra, h1, h2 =>
    have h1 : (-2147483648 : Int) ≤ (opB 1 p q).1 := h1
    have h2 : (opB 1 p q).2 ≤ (2147483647 : Int) := h2
    simp only [opB, opf] at h1 h2 ⊢
    rw [w32_id (by unfold rg32; omega)]
    omega
  | 21, ra, h1, h2 =>
    have h1 : (-9223372036854775808 : Int) ≤ (opB 21 p q).1 := h1
    have h2 : (opB 21 p q).2 ≤ (9223372036854775807 : Int) := h2
    simp only [opB, opf] at h1 h2 ⊢
    rw [w64_id (by unfold rg64; omega)]
    omega
  | 2, ra, h1, h2 =>
    have h1 : (-2147483648 : Int) ≤ (opB 2 p q).1 := h1
    have h2 : (opB 2 p q).2 ≤ (2147483647 : Int) := h2
    simp only [opB, opf] at h1 h2 ⊢
    have := mul_bd a1 a2 b1 b2
    rw [w32_id (by unfold rg32; omega)]
    exact this
  | 22, ra, h1, h2 =>
    have h1 : (-9223372036854775808 : Int) ≤ (opB 22 p q).1 := h1
    have h2 : (opB 22 p q).2 ≤ (9223372036854775807 : Int) := h2
    simp only [opB, opf] at h1 h2 ⊢
    have := mul_bd a1 a2 b1 b2
    rw [w64_id (by unfold rg64; omega)]
    exact this
  | 3, ra, h1, h2 =>
    have h1 : (-2147483648 : Int) ≤ (opB 3 p q).1 := h1
    have h2 : (opB 3 p q).2 ≤ (2147483647 : Int) := h2
    simp only [opB, opf] at h1 h2 ⊢
    split at h1
    · rename_i h9
      rw [if_pos h9] at h2 ⊢
      have : b = q.1 := by omega
      subst this
      have m1 := tdiv_mono a1 h9.2
      have m2 := tdiv_mono a2 h9.2
      dsimp only at h1 h2 ⊢
      rw [w32_id (by unfold rg32; omega)]
      omega
    · dsimp only at h1; omega
  | 23, ra, h1, h2 =>
    have h1 : (-9223372036854775808 : Int) ≤ (opB 23 p q).1 := h1
    have h2 : (opB 23 p q).2 ≤ (9223372036854775807 : Int) := h2
    simp only [opB, opf] at h1 h2 ⊢
    split at h1
    · rename_i h9
      rw [if_pos h9] at h2 ⊢
      have : b = q.1 := by omega
      subst this
      have m1 := tdiv_mono a1 h9.2
      have m2 := tdiv_mono a2 h9.2
      dsimp only at h1 h2 ⊢
      rw [w64_id (by unfold rg64; omega)]
      omega
    · dsimp only at h1; omega
  | 4, ra, h1, h2 =>
    have h1 : (-2147483648 : Int) ≤ (opB 4 p q).1 := h1
    have h2 : (opB 4 p q).2 ≤ (2147483647 : Int) := h2
    simp only [opB, opf] at h1 h2 ⊢
    split at h1
    · rename_i h9
      rw [if_pos h9] at h2 ⊢
      have : b = q.1 := by omega
      subst this
      obtain ⟨m1, m2, m3⟩ := trem_bd (x := a) h9.2
      dsimp only at h1 h2 ⊢
      rw [w32_id (by unfold rg32; split at h1 <;> omega)]
      refine ⟨?_, m3⟩
      split
      · exact m1 (by omega)
      · exact m2
    · dsimp only at h1; omega
  | 24, ra, h1, h2 =>
    have h1 : (-9223372036854775808 : Int) ≤ (opB 24 p q).1 := h1
    have h2 : (opB 24 p q).2 ≤ (9223372036854775807 : Int) := h2
    simp only [opB, opf] at h1 h2 ⊢
    split at h1
    · rename_i h9
      rw [if_pos h9] at h2 ⊢
      have : b = q.1 := by omega
      subst this
      obtain ⟨m1, m2, m3⟩ := trem_bd (x := a) h9.2
      dsimp only at h1 h2 ⊢
      rw [w64_id (by unfold rg64; split at h1 <;> omega)]
      refine ⟨?_, m3⟩
      split
      · exact m1 (by omega)
      · exact m2
    · dsimp only at h1; omega
  | 5, ra, h1, h2 =>
    obtain ⟨r1, r2⟩ := ra rfl
    have h1 : (-2147483648 : Int) ≤ (opB 5 p q).1 := h1
    have h2 : (opB 5 p q).2 ≤ (2147483647 : Int) := h2
    simp only [opB, opf] at h1 h2 ⊢
    split
    · rename_i h9
      have m1 := and_bd r1 r2 (by omega)
      have m2 := and_bd2 r1 r2 (by omega)
      dsimp only
      omega
    · split
      · have m1 := and_bd r1 r2 (by omega)
        dsimp only
        omega
      · split
        · have m2 := and_bd2 r1 r2 (by omega)
          dsimp only
          omega
        · rename_i x1 x2 x3
          rw [if_neg x1, if_neg x2, if_neg x3] at h1
          exact absurd h1 (by decide)
  | 8, ra, h1, h2 =>
    have h1 : (-2147483648 : Int) ≤ (opB 8 p q).1 := h1
    have h2 : (opB 8 p q).2 ≤ (2147483647 : Int) := h2
    simp only [opB, opf] at h1 h2 ⊢
    split
    · rename_i h9
      have : a = 1 := by omega
      subst this
      rw [shl1 (by omega) (by omega)]
      have p1 : (2 : Nat) ^ q.1.toNat ≤ 2 ^ b.toNat := Nat.pow_le_pow_right (by decide) (by omega)
      have p2 : (2 : Nat) ^ b.toNat ≤ 2 ^ q.2.toNat := Nat.pow_le_pow_right (by decide) (by omega)
      dsimp only
      exact ⟨by exact_mod_cast p1, by exact_mod_cast p2⟩
    · rename_i x1
      rw [if_neg x1] at h1
      exact absurd h1 (by decide)
  | 6, _, h1, _ => exact absurd h1 (show ¬ (-2147483648 : Int) ≤ -9223372036854775809 by decide)
  | 7, _, h1, _ => exact absurd h1 (show ¬ (-2147483648 : Int) ≤ -9223372036854775809 by decide)
  | 9, _, h1, _ => exact absurd h1 (show ¬ (-2147483648 : Int) ≤ -9223372036854775809 by decide)
  | 10, _, h1, _ => exact absurd h1 (show ¬ (-2147483648 : Int) ≤ -9223372036854775809 by decide)
  | 11, _, h1, _ => exact absurd h1 (show ¬ (-2147483648 : Int) ≤ -9223372036854775809 by decide)
  | 12, _, h1, _ => exact absurd h1 (show ¬ (-2147483648 : Int) ≤ -9223372036854775809 by decide)
  | 13, _, h1, _ => exact absurd h1 (show ¬ (-2147483648 : Int) ≤ -9223372036854775809 by decide)
  | 14, _, h1, _ => exact absurd h1 (show ¬ (-2147483648 : Int) ≤ -9223372036854775809 by decide)
  | 15, _, h1, _ => exact absurd h1 (show ¬ (-2147483648 : Int) ≤ -9223372036854775809 by decide)
  | 16, _, h1, _ => exact absurd h1 (show ¬ (-2147483648 : Int) ≤ -9223372036854775809 by decide)
  | 17, _, h1, _ => exact absurd h1 (show ¬ (-2147483648 : Int) ≤ -9223372036854775809 by decide)
  | 18, _, h1, _ => exact absurd h1 (show ¬ (-2147483648 : Int) ≤ -9223372036854775809 by decide)
  | 19, _, h1, _ => exact absurd h1 (show ¬ (-2147483648 : Int) ≤ -9223372036854775809 by decide)
  | n + 25, _, h1, _ =>
    have e : isLo (n + 25) = true := decide_eq_true (by omega)
    rw [e] at h1
    exact absurd h1 (by show ¬ (-9223372036854775808 : Int) ≤ -9223372036854775809; decide)
end
