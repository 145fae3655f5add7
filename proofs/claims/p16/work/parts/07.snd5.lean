/-! part 5: arrays, new cells -/
section SND5
variable {p : Program} {l : Launch} {e : Env} {R : Room} {s : State} {m : MethodId} {args : Array Value} {below : List Frame} {meth : Method} {c : Code} {Q : State → Prop}
variable {tyC : Nat → ClassId} {D : va_G} {b L : Nat} {sa : Nat × Nat} {base : Nat} {xs : Nat → Int32} {A : Nat → Prop} {ad0 : Nat → Nat} {c0 s0 nL oi : Nat} {ct : Bool} {cc : ByteArray} {pc pc' k : Nat} {ls : AL} {st : List AV} {h : AH} {ns : List Nat} {z : Int}
theorem ceI {ad : Nat → Nat} {t : Nat × Nat} {I J : Nat → Int} {Rr : Nat → Option Nat} (h1 : 100 ≤ t.1) (h2 : t.1 ≤ 102) : ceE tyC ad t I J Rr = .inl (tyC (t.1 - 100), t.2, .inl (fun j => Int32.ofInt (I j))) := by
  unfold ceE
  rw [if_neg (by omega), if_pos h2]
theorem ceL {ad : Nat → Nat} {t : Nat × Nat} {I J : Nat → Int} {Rr : Nat → Option Nat} (h1 : t.1 = 103) : ceE tyC ad t I J Rr = .inl (tyC 3, t.2, .inr (.inl (fun j => Int64.ofInt (J j)))) := by
  unfold ceE
  rw [if_neg (by omega), if_neg (by omega), if_pos h1, h1]
theorem ceA {ad : Nat → Nat} {t : Nat × Nat} {I J : Nat → Int} {Rr : Nat → Option Nat} (h1 : 104 ≤ t.1) : ceE tyC ad t I J Rr = .inl (tyC (t.1 - 100), t.2, .inr (.inr (.inr (.inr (fun j => (Rr j).map ad))))) := by
  unfold ceE
  rw [if_neg (by omega), if_neg (by omega), if_neg (by omega)]
theorem sn_iald {pcs : Nat → Nat} (X : CTX p R s m args meth c tyC D b L sa base xs A cc nL oi ct) (hd : decode cc (pcs k) = .ok (.iaload, 1)) (hp : pcs (k + 1) = pcs k + 1)
    {q : Nat × AL × List AV × AH} (eq : am_ald 100 k ls st h = some q) (hk : SW p l e R s m args below meth c Q tyC D b L sa base xs A ad0 c0 s0 nL (pcs q.1) q.2.1 q.2.2.1 q.2.2.2) : SW p l e R s m args below meth c Q tyC D b L sa base xs A ad0 c0 s0 nL (pcs k) ls st h := by
  obtain ⟨hx, hb, hml, hown, hts, hK, -, -, hA, -, hX, hbb, hbs, hbA⟩ := X
  unfold am_ald at eq
  split at eq
  · rename_i j a st
    obtain ⟨hn, hsl, hT, hI, hJ, hRr⟩ := h
    dsimp only at eq
    obtain ⟨⟨g1, g2, g3, g4⟩, eq⟩ := am_g_some eq
    cases eq
    intro ad H locs cls cells slots hR hS hl hst hc hs
    obtain ⟨hP, hD, hrg, r1, r2, r3, -⟩ := id hR
    have hj := hst (.inl j) List.mem_cons_self
    obtain ⟨i1, i2⟩ := ix32 (n := (hT a).2) hj g2 g3
    have go := hk ad H locs cls cells slots hR hS hl (fun v hv => (List.mem_cons.mp hv).elim (fun e => by rw [e]; exact hrg.1 a j.toNat) (fun hv => hst _ (List.mem_cons_of_mem _ (List.mem_cons_of_mem _ hv)))) hc hs
    rw [hp] at go
    rcases g4 with g4 | g4
    · have hat := wsE_at (tyC := tyC) (ad := ad) (h := (hn, hsl, hT, hI, hJ, hRr)) g4
      dsimp only at hat
      rw [ceI (by omega) (by omega), g1] at hat
      refine va_iald (D := D) hx hb hK hP a 0 (n := (hT a).2) hat rfl i1 hd ?_
      rw [i2]
      exact go
    · subst g4
      have e2 : hT 1000000 = (100, L) := r2
      rw [e2] at g3 i1
      have e3 : hI 1000000 j.toNat = (xs j.toNat).toInt := r3 _ (by omega)
      refine W.eq (g2 := F0 m (pcs k) cls (.int (Int32.ofInt j) :: .ref b :: st.map (cvv ad))) (by rw [← r1]; rfl) ?_
      refine va_sld (A := A) hx hb hX (by omega) (fun q => by have := hbA _ q; omega) hS i1 hd ?_
      rw [i2, ← o32 (xs j.toNat), ← e3]
      exact go
  · cases eq
theorem sn_bald {pcs : Nat → Nat} {tag : Nat} (X : CTX p R s m args meth c tyC D b L sa base xs A cc nL oi ct) (hd : decode cc (pcs k) = .ok (.baload, 1)) (hp : pcs (k + 1) = pcs k + 1) (ht : tag = 101 ∨ tag = 102)
    {q : Nat × AL × List AV × AH} (eq : am_ald tag k ls st h = some q) (hk : SW p l e R s m args below meth c Q tyC D b L sa base xs A ad0 c0 s0 nL (pcs q.1) q.2.1 q.2.2.1 q.2.2.2) : SW p l e R s m args below meth c Q tyC D b L sa base xs A ad0 c0 s0 nL (pcs k) ls st h := by
  obtain ⟨hx, hb, hml, hown, hts, hK, -, -, hA, -, hX, hbb, hbs, hbA⟩ := X
  unfold am_ald at eq
  split at eq
  · rename_i j a st
    obtain ⟨hn, hsl, hT, hI, hJ, hRr⟩ := h
    dsimp only at eq
    obtain ⟨⟨g1, g2, g3, g4⟩, eq⟩ := am_g_some eq
    cases eq
    intro ad H locs cls cells slots hR hS hl hst hc hs
    obtain ⟨hP, hD, hrg, r1, r2, r3, -⟩ := id hR
    have hj := hst (.inl j) List.mem_cons_self
    obtain ⟨i1, i2⟩ := ix32 (n := (hT a).2) hj g2 g3
    have go := hk ad H locs cls cells slots hR hS hl (fun v hv => (List.mem_cons.mp hv).elim (fun e => by rw [e]; exact hrg.1 a j.toNat) (fun hv => hst _ (List.mem_cons_of_mem _ (List.mem_cons_of_mem _ hv)))) hc hs
    rw [hp] at go
    rcases g4 with g4 | g4
    · have hat := wsE_at (tyC := tyC) (ad := ad) (h := (hn, hsl, hT, hI, hJ, hRr)) g4
      dsimp only at hat
      rw [ceI (by omega) (by omega), g1] at hat
      rcases ht with rfl | rfl
      · refine va_bald (D := D) hx hb hK hP a 1 (n := (hT a).2) hat rfl i1 hd ?_
        rw [i2]
        exact go
      · refine va_zald (D := D) hx hb hK hP a 2 (n := (hT a).2) hat rfl i1 hd ?_
        rw [i2]
        exact go
    · subst g4
      have e2 : hT 1000000 = (100, L) := r2
      rw [e2] at g1
      dsimp only at g1
      omega
  · cases eq
theorem sn_lald {pcs : Nat → Nat} (X : CTX p R s m args meth c tyC D b L sa base xs A cc nL oi ct) (hd : decode cc (pcs k) = .ok (.laload, 1)) (hp : pcs (k + 1) = pcs k + 1)
    {q : Nat × AL × List AV × AH} (eq : am_aldL k ls st h = some q) (hk : SW p l e R s m args below meth c Q tyC D b L sa base xs A ad0 c0 s0 nL (pcs q.1) q.2.1 q.2.2.1 q.2.2.2) : SW p l e R s m args below meth c Q tyC D b L sa base xs A ad0 c0 s0 nL (pcs k) ls st h := by
  obtain ⟨hx, hb, hml, hown, hts, hK, -⟩ := X
  unfold am_aldL at eq
  split at eq
  · rename_i j a st
    obtain ⟨hn, hsl, hT, hI, hJ, hRr⟩ := h
    dsimp only at eq
    obtain ⟨⟨g1, g2, g3, g4⟩, eq⟩ := am_g_some eq
    cases eq
    intro ad H locs cls cells slots hR hS hl hst hc hs
    obtain ⟨hP, hD, hrg, -⟩ := id hR
    have hj := hst (.inl j) List.mem_cons_self
    obtain ⟨i1, i2⟩ := ix32 (n := (hT a).2) hj g2 g3
    have go := hk ad H locs cls cells slots hR hS hl (fun v hv => (List.mem_cons.mp hv).elim (fun e => by rw [e]; exact hrg.2.1 a j.toNat) (fun hv => hst _ (List.mem_cons_of_mem _ (List.mem_cons_of_mem _ hv)))) hc hs
    rw [hp] at go
    have hat := wsE_at (tyC := tyC) (ad := ad) (h := (hn, hsl, hT, hI, hJ, hRr)) g4
    dsimp only at hat
    rw [ceL g1] at hat
    refine va_lald (D := D) hx hb hK hP a 3 (n := (hT a).2) hat rfl i1 hd ?_
    rw [i2]
    exact go
  · cases eq
theorem sn_aald {pcs : Nat → Nat} {tag : Nat} (X : CTX p R s m args meth c tyC D b L sa base xs A cc nL oi ct) (hd : decode cc (pcs k) = .ok (.aaload, 1)) (hp : pcs (k + 1) = pcs k + 1) (ht : tag = 104 ∨ tag = 105)
    {q : Nat × AL × List AV × AH} (eq : am_aldA tag k ls st h = some q) (hk : SW p l e R s m args below meth c Q tyC D b L sa base xs A ad0 c0 s0 nL (pcs q.1) q.2.1 q.2.2.1 q.2.2.2) : SW p l e R s m args below meth c Q tyC D b L sa base xs A ad0 c0 s0 nL (pcs k) ls st h := by
  obtain ⟨hx, hb, hml, hown, hts, hK, -⟩ := X
  unfold am_aldA at eq
  split at eq
  · rename_i j a st
    obtain ⟨hn, hsl, hT, hI, hJ, hRr⟩ := h
    dsimp only at eq
    obtain ⟨⟨g1, g2, g3, g4⟩, eq⟩ := am_g_some eq
    cases eq
    intro ad H locs cls cells slots hR hS hl hst hc hs
    obtain ⟨hP, hD, hrg, -⟩ := id hR
    have hj := hst (.inl j) List.mem_cons_self
    obtain ⟨i1, i2⟩ := ix32 (n := (hT a).2) hj g2 g3
    have hin : inR hn (.inr (.inr (hRr a j.toNat))) := by
      cases hr : hRr a j.toNat with
      | none => trivial
      | some r => exact Or.inl (hrg.2.2 a j.toNat r hr)
    have go := hk ad H locs cls cells slots hR hS hl (fun v hv => (List.mem_cons.mp hv).elim (fun e => by rw [e]; exact hin) (fun hv => hst _ (List.mem_cons_of_mem _ (List.mem_cons_of_mem _ hv)))) hc hs
    rw [hp] at go
    have hat := wsE_at (tyC := tyC) (ad := ad) (h := (hn, hsl, hT, hI, hJ, hRr)) g4
    dsimp only at hat
    rw [ceA (by omega), g1] at hat
    have ev9 : cvv ad (.inr (.inr (hRr a j.toNat))) = va_rf ((hRr a j.toNat).map ad) := by cases hRr a j.toNat <;> rfl
    have row : ∀ (ty : FieldType) (t0 : Nat), (tysE tyC)[t0]? = some (tyC (tag - 100), ty) → ty.isReference = true → W p l e R s m args below meth c H locs cells slots Q (F0 m (pcs k) cls ((.inl j :: .inr (.inr (some a)) :: st : List AV).map (cvv ad))) := by
      intro ty t0 ht0 href
      have hlt : j.toNat < (hT a).2 := by omega
      refine W.aald (v := va_rf ((hRr a j.toNat).map ad)) (ty := ty) (rest := st.map (cvv ad)) hx hb (hP a _ hat) ((hK.2 t0 _ ht0).1 (hT a).2 (fun j => va_rf ((hRr a j).map ad))) href (fun q => by cases q) (by show ¬ (_ ∨ (arrV _ _ _).slots.size ≤ _); rw [arrV_size]; exact i1) (by show (arrV _ _ _).slots[_]? = _; rw [i2, arrV_read _ _ hlt]) rfl rfl hd ?_
      rw [← ev9]
      exact go
    rcases ht with rfl | rfl
    · exact row (.array .int) 4 rfl rfl
    · exact row (.object "StarDays$Law") 5 rfl rfl
  · cases eq
/-- an array's place is written -/
theorem sn_ast0 {pcs : Nat → Nat} {a j : Nat} {h h' : AH} {vs : List AV} {y : vp_A} (hp : pcs (k + 1) = pcs k + 1) (hn : h'.1 = h.1) (hs2 : h'.2.1 = h.2.1) (hT : h'.2.2.1 = h.2.2.1) (ha : a < h.1) (ho : ∀ q, q ≠ a → h'.2.2.2.1 q = h.2.2.2.1 q ∧ h'.2.2.2.2.1 q = h.2.2.2.2.1 q ∧ h'.2.2.2.2.2 q = h.2.2.2.2.2 q) (hrg : rgE h → (∀ v ∈ vs, inR h.1 v) → rgE h')
    (row : ∀ (ad : Nat → Nat) (H : Heap) (locs : List Loc) (cells slots : Nat) (cls : Array Slot) (rest : List Value), (∀ v ∈ vs, inR h.1 v) → va_P D vwCl (wsE tyC ad h) H → va_D A (wsE tyC ad h) → va_S A s.heap H locs → (∀ (H1 : Heap) (locs1 : List Loc), va_P D vwCl ((wsE tyC ad h).set a (ad a, ceE tyC ad (h'.2.2.1 a) (h'.2.2.2.1 a) (h'.2.2.2.2.1 a) (h'.2.2.2.2.2 a))) H1 → va_D A ((wsE tyC ad h).set a (ad a, ceE tyC ad (h'.2.2.1 a) (h'.2.2.2.1 a) (h'.2.2.2.2.1 a) (h'.2.2.2.2.2 a))) → va_S A s.heap H1 locs1 → W p l e R s m args below meth c H1 locs1 cells slots Q (F0 m (pcs k + 1) cls rest)) → W p l e R s m args below meth c H locs cells slots Q (F0 m (pcs k) cls (vs.map (cvv ad) ++ rest)))
    (hk : SW p l e R s m args below meth c Q tyC D b L sa base xs A ad0 c0 s0 nL (pcs (k + 1)) ls st h') : SW p l e R s m args below meth c Q tyC D b L sa base xs A ad0 c0 s0 nL (pcs k) ls (vs ++ st) h := by
  intro ad H locs cls cells slots hR hS hl hst hc hs
  obtain ⟨hP, hD, hr0, -⟩ := id hR
  rw [List.map_append]
  have hv0 : ∀ v ∈ vs, inR h.1 v := fun v hv => hst v (List.mem_append_left _ hv)
  refine row ad H locs cells slots cls _ hv0 hP hD hS (fun H1 locs1 hP1 hD1 hS1 => ?_)
  rw [← hp]
  exact hk ad H1 locs1 cls cells slots (RepE_set hR hn hT ha ho (hrg hr0 hv0) rfl hP1 hD1) hS1 (by rw [hn]; exact hl) (fun v hv => by rw [hn]; exact hst _ (List.mem_append_right _ hv)) (by rw [hn]; exact hc) (by rw [hs2]; exact hs)
theorem up2_fun (f : Nat → Nat → Int) (a j : Nat) (v : Int) : (fun y => Int32.ofInt (up2 f a j v a y)) = upd (fun y => Int32.ofInt (f a y)) j (Int32.ofInt v) := by
  funext y
  unfold up2
  by_cases hy : y = j
  · subst hy; rw [pk_us, if_pos ⟨rfl, rfl⟩]
  · rw [pk_un hy, if_neg (fun z => hy z.2)]
theorem up2_funL (f : Nat → Nat → Int) (a j : Nat) (v : Int) : (fun y => Int64.ofInt (up2 f a j v a y)) = vp_updL (fun y => Int64.ofInt (f a y)) j (Int64.ofInt v) := by
  funext y
  unfold up2
  by_cases hy : y = j
  · subst hy; rw [pk_uLs, if_pos ⟨rfl, rfl⟩]
  · rw [pk_uLn hy, if_neg (fun z => hy z.2)]
theorem up2_funA (ad : Nat → Nat) (f : Nat → Nat → Option Nat) (a j v : Nat) : (fun y => (up2 f a j (some v) a y).map ad) = va_up (fun y => (f a y).map ad) j (some (ad v)) := by
  funext y
  unfold up2
  by_cases hy : y = j
  · subst hy; rw [va_up_self, if_pos ⟨rfl, rfl⟩]; rfl
  · rw [va_up_ne _ _ hy, if_neg (fun z => hy z.2)]
theorem sn_iast {pcs : Nat → Nat} (X : CTX p R s m args meth c tyC D b L sa base xs A cc nL oi ct) (hd : decode cc (pcs k) = .ok (.iastore, 1)) (hp : pcs (k + 1) = pcs k + 1)
    {q : Nat × AL × List AV × AH} (eq : am_ast 100 (fun v => v) k ls st h = some q) (hk : SW p l e R s m args below meth c Q tyC D b L sa base xs A ad0 c0 s0 nL (pcs q.1) q.2.1 q.2.2.1 q.2.2.2) : SW p l e R s m args below meth c Q tyC D b L sa base xs A ad0 c0 s0 nL (pcs k) ls st h := by
  obtain ⟨hx, hb, hml, hown, hts, hK, -⟩ := X
  unfold am_ast at eq
  split at eq
  · rename_i v j a st
    obtain ⟨hn, hsl, hT, hI, hJ, hRr⟩ := h
    dsimp only at eq
    obtain ⟨⟨g1, g2, g3, g4⟩, eq⟩ := am_g_some eq
    cases eq
    refine sn_ast0 (vs := [.inl v, .inl j, .inr (.inr (some a))]) (h := (hn, hsl, hT, hI, hJ, hRr)) (h' := (hn, hsl, hT, up2 hI a j.toNat v, hJ, hRr)) (a := a) (j := j.toNat) (y := (0, .inl fun _ => 0)) hp rfl rfl rfl g4 (fun q hq => ⟨up2_a _ _ _ _ q hq, rfl, rfl⟩) (fun hr hv => ⟨up2_rg hr.1 (hv _ List.mem_cons_self), hr.2⟩) (fun ad H locs cells slots cls rest hv hP hD hS kk => ?_) hk
    have hj := hv (.inl j) (List.mem_cons_of_mem _ List.mem_cons_self)
    obtain ⟨i1, i2⟩ := ix32 (n := (hT a).2) hj g2 g3
    have hat := wsE_at (tyC := tyC) (ad := ad) (h := (hn, hsl, hT, hI, hJ, hRr)) g4
    dsimp only at hat kk
    rw [ceI (by omega) (by omega), g1] at hat
    refine va_iast (D := D) (x := Int32.ofInt v) hx hb hK hP hD hS a 0 (n := (hT a).2) hat rfl i1 hd (fun H1 locs1 hP1 hD1 hS1 => ?_)
    rw [i2, ← up2_fun] at hP1 hD1
    refine kk H1 locs1 ?_ ?_ hS1
    · rw [ceI (by omega) (by omega), g1]; exact hP1
    · rw [ceI (by omega) (by omega), g1]; exact hD1
  · cases eq
theorem sn_bast {pcs : Nat → Nat} (X : CTX p R s m args meth c tyC D b L sa base xs A cc nL oi ct) (hd : decode cc (pcs k) = .ok (.bastore, 1)) (hp : pcs (k + 1) = pcs k + 1)
    {q : Nat × AL × List AV × AH} (eq : am_ast 101 w8 k ls st h = some q) (hk : SW p l e R s m args below meth c Q tyC D b L sa base xs A ad0 c0 s0 nL (pcs q.1) q.2.1 q.2.2.1 q.2.2.2) : SW p l e R s m args below meth c Q tyC D b L sa base xs A ad0 c0 s0 nL (pcs k) ls st h := by
  obtain ⟨hx, hb, hml, hown, hts, hK, -⟩ := X
  unfold am_ast at eq
  split at eq
  · rename_i v j a st
    obtain ⟨hn, hsl, hT, hI, hJ, hRr⟩ := h
    dsimp only at eq
    obtain ⟨⟨g1, g2, g3, g4⟩, eq⟩ := am_g_some eq
    cases eq
    refine sn_ast0 (vs := [.inl v, .inl j, .inr (.inr (some a))]) (h := (hn, hsl, hT, hI, hJ, hRr)) (h' := (hn, hsl, hT, up2 hI a j.toNat (w8 v), hJ, hRr)) (a := a) (j := j.toNat) (y := (0, .inl fun _ => 0)) hp rfl rfl rfl g4 (fun q hq => ⟨up2_a _ _ _ _ q hq, rfl, rfl⟩) (fun hr hv => ⟨up2_rg hr.1 (w8_rg v), hr.2⟩) (fun ad H locs cells slots cls rest hv hP hD hS kk => ?_) hk
    have hj := hv (.inl j) (List.mem_cons_of_mem _ List.mem_cons_self)
    have hv8 := hv (.inl v) List.mem_cons_self
    obtain ⟨i1, i2⟩ := ix32 (n := (hT a).2) hj g2 g3
    have hat := wsE_at (tyC := tyC) (ad := ad) (h := (hn, hsl, hT, hI, hJ, hRr)) g4
    dsimp only at hat kk
    rw [ceI (by omega) (by omega), g1] at hat
    refine va_bast (D := D) (x := Int32.ofInt v) hx hb hK hP hD hS a 1 (n := (hT a).2) hat rfl i1 hd (fun H1 locs1 hP1 hD1 hS1 => ?_)
    rw [i2, vp_nar_byte, ← w8_of hv8, ← up2_fun] at hP1 hD1
    refine kk H1 locs1 ?_ ?_ hS1
    · rw [ceI (by omega) (by omega), g1]; exact hP1
    · rw [ceI (by omega) (by omega), g1]; exact hD1
  · cases eq
theorem sn_zast {pcs : Nat → Nat} (X : CTX p R s m args meth c tyC D b L sa base xs A cc nL oi ct) (hd : decode cc (pcs k) = .ok (.bastore, 1)) (hp : pcs (k + 1) = pcs k + 1)
    {q : Nat × AL × List AV × AH} (eq : am_astZ k ls st h = some q) (hk : SW p l e R s m args below meth c Q tyC D b L sa base xs A ad0 c0 s0 nL (pcs q.1) q.2.1 q.2.2.1 q.2.2.2) : SW p l e R s m args below meth c Q tyC D b L sa base xs A ad0 c0 s0 nL (pcs k) ls st h := by
  obtain ⟨hx, hb, hml, hown, hts, hK, -⟩ := X
  unfold am_astZ at eq
  split at eq
  · rename_i v j a st
    obtain ⟨hn, hsl, hT, hI, hJ, hRr⟩ := h
    dsimp only at eq
    obtain ⟨⟨g1, g2, g3, g4, g5, g6⟩, eq⟩ := am_g_some eq
    cases eq
    refine sn_ast0 (vs := [.inl v, .inl j, .inr (.inr (some a))]) (h := (hn, hsl, hT, hI, hJ, hRr)) (h' := (hn, hsl, hT, up2 hI a j.toNat v, hJ, hRr)) (a := a) (j := j.toNat) (y := (0, .inl fun _ => 0)) hp rfl rfl rfl g4 (fun q hq => ⟨up2_a _ _ _ _ q hq, rfl, rfl⟩) (fun hr hv => ⟨up2_rg hr.1 (hv _ List.mem_cons_self), hr.2⟩) (fun ad H locs cells slots cls rest hv hP hD hS kk => ?_) hk
    have hj := hv (.inl j) (List.mem_cons_of_mem _ List.mem_cons_self)
    obtain ⟨i1, i2⟩ := ix32 (n := (hT a).2) hj g2 g3
    have hat := wsE_at (tyC := tyC) (ad := ad) (h := (hn, hsl, hT, hI, hJ, hRr)) g4
    dsimp only at hat kk
    rw [ceI (by omega) (by omega), g1] at hat
    refine va_zast (D := D) (x := Int32.ofInt v) hx hb hK hP hD hS a 2 (n := (hT a).2) hat rfl i1 hd (fun H1 locs1 hP1 hD1 hS1 => ?_)
    have e1 : vp_nar .boolean (Int32.ofInt v) = Int32.ofInt v := by
      have hvv : v = 0 ∨ v = 1 := by omega
      rcases hvv with rfl | rfl <;> rfl
    rw [i2, e1, ← up2_fun] at hP1 hD1
    refine kk H1 locs1 ?_ ?_ hS1
    · rw [ceI (by omega) (by omega), g1]; exact hP1
    · rw [ceI (by omega) (by omega), g1]; exact hD1
  · cases eq
theorem sn_last {pcs : Nat → Nat} (X : CTX p R s m args meth c tyC D b L sa base xs A cc nL oi ct) (hd : decode cc (pcs k) = .ok (.lastore, 1)) (hp : pcs (k + 1) = pcs k + 1)
    {q : Nat × AL × List AV × AH} (eq : am_astL k ls st h = some q) (hk : SW p l e R s m args below meth c Q tyC D b L sa base xs A ad0 c0 s0 nL (pcs q.1) q.2.1 q.2.2.1 q.2.2.2) : SW p l e R s m args below meth c Q tyC D b L sa base xs A ad0 c0 s0 nL (pcs k) ls st h := by
  obtain ⟨hx, hb, hml, hown, hts, hK, -⟩ := X
  unfold am_astL at eq
  split at eq
  · rename_i v j a st
    obtain ⟨hn, hsl, hT, hI, hJ, hRr⟩ := h
    dsimp only at eq
    obtain ⟨⟨g1, g2, g3, g4⟩, eq⟩ := am_g_some eq
    cases eq
    refine sn_ast0 (vs := [.inr (.inl v), .inl j, .inr (.inr (some a))]) (h := (hn, hsl, hT, hI, hJ, hRr)) (h' := (hn, hsl, hT, hI, up2 hJ a j.toNat v, hRr)) (a := a) (j := j.toNat) (y := (0, .inl fun _ => 0)) hp rfl rfl rfl g4 (fun q hq => ⟨rfl, up2_a _ _ _ _ q hq, rfl⟩) (fun hr hv => ⟨hr.1, up2_rg hr.2.1 (hv _ List.mem_cons_self), hr.2.2⟩) (fun ad H locs cells slots cls rest hv hP hD hS kk => ?_) hk
    have hj := hv (.inl j) (List.mem_cons_of_mem _ List.mem_cons_self)
    obtain ⟨i1, i2⟩ := ix32 (n := (hT a).2) hj g2 g3
    have hat := wsE_at (tyC := tyC) (ad := ad) (h := (hn, hsl, hT, hI, hJ, hRr)) g4
    dsimp only at hat kk
    rw [ceL g1] at hat
    refine va_last (D := D) (x := Int64.ofInt v) hx hb hK hP hD hS a 3 (n := (hT a).2) hat rfl i1 hd (fun H1 locs1 hP1 hD1 hS1 => ?_)
    rw [i2, ← up2_funL] at hP1 hD1
    refine kk H1 locs1 ?_ ?_ hS1
    · rw [ceL g1]; exact hP1
    · rw [ceL g1]; exact hD1
  · cases eq
theorem sn_aast {pcs : Nat → Nat} (X : CTX p R s m args meth c tyC D b L sa base xs A cc nL oi ct) (hd : decode cc (pcs k) = .ok (.aastore, 1)) (hp : pcs (k + 1) = pcs k + 1)
    {q : Nat × AL × List AV × AH} (eq : am_astA 105 4 k ls st h = some q) (hk : SW p l e R s m args below meth c Q tyC D b L sa base xs A ad0 c0 s0 nL (pcs q.1) q.2.1 q.2.2.1 q.2.2.2) : SW p l e R s m args below meth c Q tyC D b L sa base xs A ad0 c0 s0 nL (pcs k) ls st h := by
  obtain ⟨hx, hb, hml, hown, hts, hK, -⟩ := X
  unfold am_astA at eq
  split at eq
  · rename_i v j a st
    obtain ⟨hn, hsl, hT, hI, hJ, hRr⟩ := h
    dsimp only at eq
    obtain ⟨⟨g1, g2, g3, g4, g5, g6⟩, eq⟩ := am_g_some eq
    cases eq
    refine sn_ast0 (vs := [.inr (.inr (some v)), .inl j, .inr (.inr (some a))]) (h := (hn, hsl, hT, hI, hJ, hRr)) (h' := (hn, hsl, hT, hI, hJ, up2 hRr a j.toNat (some v))) (a := a) (j := j.toNat) (y := (0, .inl fun _ => 0)) hp rfl rfl rfl g4 (fun q hq => ⟨rfl, rfl, up2_a _ _ _ _ q hq⟩) (fun hr hv => ⟨hr.1, hr.2.1, fun x y r hxy => ?_⟩) (fun ad H locs cells slots cls rest hv hP hD hS kk => ?_) hk
    · have hxy : up2 hRr a j.toNat (some v) x y = some r := hxy
      unfold up2 at hxy
      split at hxy
      · cases hxy; exact g6
      · exact hr.2.2 x y r hxy
    · have hj := hv (.inl j) (List.mem_cons_of_mem _ List.mem_cons_self)
      obtain ⟨i1, i2⟩ := ix32 (n := (hT a).2) hj g2 g3
      have hat := wsE_at (tyC := tyC) (ad := ad) (h := (hn, hsl, hT, hI, hJ, hRr)) g4
      have hat2 := wsE_at (tyC := tyC) (ad := ad) (h := (hn, hsl, hT, hI, hJ, hRr)) g6
      dsimp only at hat hat2 kk
      rw [ceA (by omega), g1] at hat
      unfold ceE at hat2
      rw [if_pos (by omega), g5] at hat2
      refine va_astq (D := D) (r := (RX4, TX4, 9)) hx hb hK hP hD hS a 5 v 4 (n := (hT a).2) hat rfl hat2 rfl i1 hd (fun H1 locs1 hP1 hD1 hS1 => ?_)
      rw [i2, ← up2_funA] at hP1 hD1
      refine kk H1 locs1 ?_ ?_ hS1
      · rw [ceA (by omega), g1]; exact hP1
      · rw [ceA (by omega), g1]; exact hD1
  · cases eq
theorem sn_len {pcs : Nat → Nat} (X : CTX p R s m args meth c tyC D b L sa base xs A cc nL oi ct) (hd : decode cc (pcs k) = .ok (.arraylength, 1)) (hp : pcs (k + 1) = pcs k + 1)
    {q : Nat × AL × List AV × AH} (eq : am_len k ls st h = some q) (hk : SW p l e R s m args below meth c Q tyC D b L sa base xs A ad0 c0 s0 nL (pcs q.1) q.2.1 q.2.2.1 q.2.2.2) : SW p l e R s m args below meth c Q tyC D b L sa base xs A ad0 c0 s0 nL (pcs k) ls st h := by
  obtain ⟨hx, hb, hml, hown, hts, hK, -, -, hA, -, hX, hbb, hbs, hbA⟩ := X
  unfold am_len at eq
  split at eq
  · rename_i a st
    obtain ⟨hn, hsl, hT, hI, hJ, hRr⟩ := h
    dsimp only at eq
    obtain ⟨⟨g1, g2, g3, g4⟩, eq⟩ := am_g_some eq
    cases eq
    intro ad H locs cls cells slots hR hS hl hst hc hs
    obtain ⟨hP, hD, hrg, r1, r2, r3, -⟩ := id hR
    have go := hk ad H locs cls cells slots hR hS hl (fun v hv => (List.mem_cons.mp hv).elim (fun e => by rw [e]; exact ⟨by omega, by omega⟩) (fun hv => hst _ (List.mem_cons_of_mem _ hv))) hc hs
    rw [hp] at go
    rcases g4 with g4 | g4
    · have hat := wsE_at (tyC := tyC) (ad := ad) (h := (hn, hsl, hT, hI, hJ, hRr)) g4
      dsimp only at hat
      have h6 : ∀ t, t ≤ 5 → ∃ ty, (tysE tyC)[t]? = some (tyC t, ty) := by
        intro t ht
        match t, ht with
        | 0, _ => exact ⟨_, rfl⟩
        | 1, _ => exact ⟨_, rfl⟩
        | 2, _ => exact ⟨_, rfl⟩
        | 3, _ => exact ⟨_, rfl⟩
        | 4, _ => exact ⟨_, rfl⟩
        | 5, _ => exact ⟨_, rfl⟩
      obtain ⟨ty, hty⟩ := h6 ((hT a).1 - 100) (by omega)
      unfold ceE at hat
      rw [if_neg (by omega)] at hat
      exact va_alen (D := D) hx hb hK hP a _ hat hty rfl hd go
    · subst g4
      have e2 : hT 1000000 = (100, L) := r2
      refine W.eq (g2 := F0 m (pcs k) cls (.ref b :: st.map (cvv ad))) (by rw [← r1]; rfl) ?_
      refine va_slen (A := A) hx hb hX (by omega) (fun q => by have := hbA _ q; omega) hS hd ?_
      have e4 : cvv ad (Sum.inl ((hT 1000000).2 : Int)) = .int (Int32.ofNat L) := by rw [e2]; rfl
      rw [← e4]
      exact go
  · cases eq
end SND5
