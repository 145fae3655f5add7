/-! part 16: what a run does without the script it does beside any script -/
def ov (L : Nat) (X : Nat → Int) (h : AH) : AH := (h.1, h.2.1, (fun a => if a = 1000000 then (100, L) else h.2.2.1 a), (fun a => if a = 1000000 then X else h.2.2.2.1 a), h.2.2.2.2.1, h.2.2.2.2.2)
section
variable {L : Nat} {X : Nat → Int}
def OV (L : Nat) (X : Nat → Int) (o : AR) (o' : AR) : Prop := ∀ q, o = some q → o' = some (q.1, q.2.1, q.2.2.1, ov L X q.2.2.2)
theorem OV_n {o' : AR} : OV L X none o' := fun q e => by cases e
theorem OV_r {k : Nat} {ls : AL} {st : List AV} {h h' : AH} (e : ov L X h = h') : OV L X (some (k, ls, st, h)) (some (k, ls, st, h')) := fun q e9 => by cases e9; rw [← e]
theorem OV_g {c : Prop} [Decidable c] {c' : Prop} [Decidable c'] {x x' : AR} (hc : c → c') (hx : OV L X x x') : OV L X (am_g c x) (am_g c' x') := by
  intro q e
  obtain ⟨h1, h2⟩ := am_g_some e
  unfold am_g
  rw [if_pos (hc h1)]
  exact hx q h2
theorem OV_gx {c : Prop} [Decidable c] {c' : Prop} [Decidable c'] {x x' : AR} (hc : c → c') (hx : c → OV L X x x') : OV L X (am_g c x) (am_g c' x') := by
  intro q e
  obtain ⟨h1, h2⟩ := am_g_some e
  unfold am_g
  rw [if_pos (hc h1)]
  exact hx h1 q h2
theorem OV_i {c : Prop} [Decidable c] {x x' y y' : AR} (hx : OV L X x x') (hy : OV L X y y') : OV L X (am_if c x y) (am_if c x' y') := by
  unfold am_if
  split
  · exact hx
  · exact hy
theorem OV_br {co : ClassFile.Cond} {a b : Int} {t k : Nat} {ls : AL} {st : List AV} {h : AH} : OV L X (am_br co a b t k ls st h) (am_br co a b t k ls st (ov L X h)) := by
  cases co <;> exact OV_i (OV_r rfl) (OV_r rfl)
theorem OV_sw {x : Int} {ls : AL} {st : List AV} {h : AH} {d : Nat} : ∀ l, OV L X (am_sw x ls st h d l) (am_sw x ls st (ov L X h) d l)
  | [] => OV_r rfl
  | _ :: r => OV_i (OV_r rfl) (OV_sw r)
theorem ov_T {h : AH} {a : Nat} (ha : a ≠ 1000000) : (ov L X h).2.2.1 a = h.2.2.1 a := if_neg ha
theorem ov_I {h : AH} {a : Nat} (ha : a ≠ 1000000) : (ov L X h).2.2.2.1 a = h.2.2.2.1 a := if_neg ha
theorem ov_up2 {I : Nat → Nat → Int} {a j : Nat} {v : Int} (ha : a ≠ 1000000) : (fun x => if x = 1000000 then X else up2 I a j v x) = up2 (fun x => if x = 1000000 then X else I x) a j v := by
  funext x y
  unfold up2
  dsimp only
  by_cases e : x = 1000000
  · subst e
    rw [if_pos rfl, if_neg (fun z => ha z.1.symm), if_pos rfl]
  · rw [if_neg e]
    by_cases e2 : x = a ∧ y = j
    · rw [if_pos e2, if_pos e2]
    · rw [if_neg e2, if_neg e2, if_neg e]
theorem OV_newo {tag n k : Nat} {ls : AL} {st : List AV} {h : AH} : OV L X (am_newo tag n k ls st h) (am_newo tag n k ls st (ov L X h)) := by
  obtain ⟨c, s, T, I, J, R⟩ := h
  refine OV_gx (fun z => z) (fun hc => OV_r ?_)
  have hc : c < 1000000 := hc
  show (_, _, _, _, _, _) = (_, _, _, _, _, _)
  dsimp only [ov]
  congr 3
  · funext x
    unfold up1
    dsimp only
    by_cases e : x = 1000000
    · subst e; rw [if_pos rfl, if_neg (by omega), if_pos rfl]
    · rw [if_neg e]
      by_cases e2 : x = c
      · rw [if_pos e2, if_pos e2]
      · rw [if_neg e2, if_neg e2, if_neg e]
  · congr 1
    funext x
    by_cases e : x = 1000000
    · subst e; rw [if_pos rfl, if_neg (by omega), if_pos rfl]
    · rw [if_neg e]
      by_cases e2 : x = c
      · rw [if_pos e2, if_pos e2]
      · rw [if_neg e2, if_neg e2, if_neg e]
theorem OV_newm {tag tag2 k : Nat} {ls : AL} {st : List AV} {h : AH} : OV L X (am_newm tag tag2 k ls st h) (am_newm tag tag2 k ls st (ov L X h)) := by
  obtain ⟨c, s, T, I, J, R⟩ := h
  unfold am_newm
  split
  · refine OV_gx (fun z => z) (fun hc => OV_r ?_)
    obtain ⟨-, -, -, -, hc⟩ := hc
    show (_, _, _, _, _, _) = (_, _, _, _, _, _)
    dsimp only [ov]
    congr 3
    · funext x
      by_cases e : x = 1000000
      · subst e; rw [if_pos rfl, if_neg (by omega), if_neg (by omega), if_pos rfl]
      · simp only [if_neg e]
    · congr 1
      funext x
      by_cases e : x = 1000000
      · subst e; rw [if_pos rfl, if_neg (by omega), if_pos rfl]
      · simp only [if_neg e]
  · exact OV_n
def SC0 (h : AH) : Prop := (h.2.2.1 1000000).1 = 0 ∧ h.1 ≤ 1000000
theorem OV_ald {tag k : Nat} {ls : AL} {st : List AV} {h : AH} (h0 : SC0 h) (ht : 0 < tag) : OV L X (am_ald tag k ls st h) (am_ald tag k ls st (ov L X h)) := by
  obtain ⟨c, s, T, I, J, R⟩ := h
  unfold am_ald
  split
  · rename_i j a st
    have key : (T a).1 = tag → a ≠ 1000000 := fun z e => by subst e; have : (T 1000000).1 = 0 := h0.1; omega
    refine OV_gx (fun z => ?_) (fun z => ?_)
    · dsimp only; rw [if_neg (key z.1)]; exact z
    · dsimp only
      rw [if_neg (key z.1)]
      exact OV_r rfl
  · exact OV_n
theorem OV_aldL {k : Nat} {ls : AL} {st : List AV} {h : AH} (h0 : SC0 h) : OV L X (am_aldL k ls st h) (am_aldL k ls st (ov L X h)) := by
  obtain ⟨c, s, T, I, J, R⟩ := h
  unfold am_aldL
  split
  · rename_i j a st
    have key : (T a).1 = 103 → a ≠ 1000000 := fun z e => by subst e; have : (T 1000000).1 = 0 := h0.1; omega
    exact OV_gx (fun z => by dsimp only; rw [if_neg (key z.1)]; exact z) (fun z => OV_r rfl)
  · exact OV_n
theorem OV_aldA {tag k : Nat} {ls : AL} {st : List AV} {h : AH} (h0 : SC0 h) (ht : 0 < tag) : OV L X (am_aldA tag k ls st h) (am_aldA tag k ls st (ov L X h)) := by
  obtain ⟨c, s, T, I, J, R⟩ := h
  unfold am_aldA
  split
  · rename_i j a st
    have key : (T a).1 = tag → a ≠ 1000000 := fun z e => by subst e; have : (T 1000000).1 = 0 := h0.1; omega
    exact OV_gx (fun z => by dsimp only; rw [if_neg (key z.1)]; exact z) (fun z => OV_r rfl)
  · exact OV_n
theorem OV_ast {tag k : Nat} {f : Int → Int} {ls : AL} {st : List AV} {h : AH} (h0 : SC0 h) : OV L X (am_ast tag f k ls st h) (am_ast tag f k ls st (ov L X h)) := by
  obtain ⟨c, s, T, I, J, R⟩ := h
  have hc : c ≤ 1000000 := h0.2
  unfold am_ast
  split
  · rename_i v j a st
    refine OV_gx (fun z => by dsimp only; rw [if_neg (by omega)]; exact z) (fun z => OV_r ?_)
    dsimp only [ov]
    rw [ov_up2 (by omega)]
  · exact OV_n
theorem OV_astZ {k : Nat} {ls : AL} {st : List AV} {h : AH} (h0 : SC0 h) : OV L X (am_astZ k ls st h) (am_astZ k ls st (ov L X h)) := by
  obtain ⟨c, s, T, I, J, R⟩ := h
  have hc : c ≤ 1000000 := h0.2
  unfold am_astZ
  split
  · rename_i v j a st
    refine OV_gx (fun z => by dsimp only; rw [if_neg (by omega)]; exact z) (fun z => OV_r ?_)
    dsimp only [ov]
    rw [ov_up2 (by omega)]
  · exact OV_n
theorem OV_astL {k : Nat} {ls : AL} {st : List AV} {h : AH} (h0 : SC0 h) : OV L X (am_astL k ls st h) (am_astL k ls st (ov L X h)) := by
  obtain ⟨c, s, T, I, J, R⟩ := h
  have hc : c ≤ 1000000 := h0.2
  unfold am_astL
  split
  · rename_i v j a st
    exact OV_gx (fun z => by dsimp only; rw [if_neg (by omega)]; exact z) (fun z => OV_r rfl)
  · exact OV_n
theorem OV_astA {tag tag2 k : Nat} {ls : AL} {st : List AV} {h : AH} (h0 : SC0 h) : OV L X (am_astA tag tag2 k ls st h) (am_astA tag tag2 k ls st (ov L X h)) := by
  obtain ⟨c, s, T, I, J, R⟩ := h
  have hc : c ≤ 1000000 := h0.2
  unfold am_astA
  split
  · rename_i v j a st
    exact OV_gx (fun z => by dsimp only; rw [if_neg (by omega), if_neg (by omega)]; exact z) (fun z => OV_r rfl)
  · exact OV_n
theorem OV_len {k : Nat} {ls : AL} {st : List AV} {h : AH} (h0 : SC0 h) : OV L X (am_len k ls st h) (am_len k ls st (ov L X h)) := by
  obtain ⟨c, s, T, I, J, R⟩ := h
  unfold am_len
  split
  · rename_i a st
    have key : 100 ≤ (T a).1 → a ≠ 1000000 := fun z e => by subst e; have : (T 1000000).1 = 0 := h0.1; omega
    refine OV_gx (fun z => ?_) (fun z => ?_)
    · dsimp only; rw [if_neg (key z.1)]; exact z
    · dsimp only
      rw [if_neg (key z.1)]
      exact OV_r rfl
  · exact OV_n
theorem OV_get {tag f kind k : Nat} {ls : AL} {st : List AV} {h : AH} (h0 : SC0 h) : OV L X (am_get tag f kind k ls st h) (am_get tag f kind k ls st (ov L X h)) := by
  obtain ⟨c, s, T, I, J, R⟩ := h
  have hc : c ≤ 1000000 := h0.2
  unfold am_get
  split
  · rename_i a st
    refine OV_gx (fun z => ?_) (fun z => ?_)
    · dsimp only; rw [if_neg (by omega)]; exact z
    · have ha : a ≠ 1000000 := by omega
      dsimp only
      rw [if_neg ha]
      exact OV_r rfl
  · exact OV_n
theorem OV_put {tag f kind k : Nat} {ls : AL} {st : List AV} {h : AH} (h0 : SC0 h) : OV L X (am_put tag f kind k ls st h) (am_put tag f kind k ls st (ov L X h)) := by
  obtain ⟨c, s, T, I, J, R⟩ := h
  have hc : c ≤ 1000000 := h0.2
  unfold am_put
  split
  · split
    · refine OV_gx (fun z => by dsimp only; rw [if_neg (by omega)]; exact z) (fun z => OV_r ?_)
      dsimp only [ov]
      rw [ov_up2 (by omega)]
    · exact OV_n
  · split
    · exact OV_gx (fun z => by dsimp only; rw [if_neg (by omega)]; exact z) (fun z => OV_r rfl)
    · exact OV_n
  · split
    · exact OV_gx (fun z => by dsimp only; rw [if_neg (by omega)]; exact z) (fun z => OV_r rfl)
    · exact OV_n
  · split
    · refine OV_gx (fun z => by dsimp only; rw [if_neg (by omega)]; exact z) (fun z => OV_r ?_)
      dsimp only [ov]
      rw [ov_up2 (by omega)]
    · exact OV_n
theorem OV_newa {tag k : Nat} {ls : AL} {st : List AV} {h : AH} : OV L X (am_newa tag k ls st h) (am_newa tag k ls st (ov L X h)) := by
  unfold am_newa
  split
  · exact OV_g (fun z => z) OV_newo
  · exact OV_n
theorem stp_ov {i : Instr} {z : Int} {ns : List Nat} {k : Nat} {ls : AL} {st : List AV} {h : AH} (h0 : SC0 h) (hb : i = .baload → 0 < ns.getD 0 0) (ha : i = .aaload → 0 < ns.getD 0 0) : OV L X (stp i z ns k ls st h) (stp i z ns k ls st (ov L X h)) := by
  cases i with
  | baload =>
    simp only [stp]
    split
    · simp only [am_aldS]
      repeat' (first | exact OV_n | exact OV_r rfl | (refine OV_g (fun z => z) ?_) | split)
    · exact OV_ald h0 (hb rfl)
  | aaload => exact OV_aldA h0 (ha rfl)
  | iaload => exact OV_ald h0 (by decide)
  | laload => exact OV_aldL h0
  | iastore => exact OV_ast h0
  | lastore => exact OV_astL h0
  | aastore => exact OV_astA h0
  | arraylength =>
    simp only [stp]
    split
    · simp only [am_lenS]
      repeat' (first | exact OV_n | exact OV_r rfl | (refine OV_g (fun z => z) ?_) | split)
    · exact OV_len h0
  | getfield ix =>
    simp only [stp]
    split
    · simp only [am_getS]
      repeat' (first | exact OV_n | exact OV_r rfl | (refine OV_g (fun z => z) ?_) | split)
    · exact OV_get h0
  | putfield ix => exact OV_put h0
  | new ix => exact OV_newo
  | newarray t => exact OV_newa
  | anewarray t => exact OV_newa
  | multianewarray ix d => exact OV_newm
  | bastore =>
    simp only [stp]
    split
    · exact OV_ast h0
    · exact OV_astZ h0
  | _ => simp only [stp, am_bin, am_div, am_binL, am_divL, am_shL, am_ldI, am_ldL, am_ldA, am_stI, am_stL, am_stA] <;> (repeat' (first | exact OV_n | exact OV_r rfl | exact OV_sw _ | exact OV_br | (refine OV_g (fun z => z) ?_) | split))
end
def keepS (h : AH) (o : AR) : Prop := ∀ q, o = some q → q.2.2.2.2.2.1 1000000 = h.2.2.1 1000000 ∧ (h.1 ≤ 1000000 → q.2.2.2.1 ≤ 1000000)
theorem kS_n {h : AH} : keepS h none := fun q e => by cases e
theorem kS_s {h : AH} {k : Nat} {ls : AL} {st : List AV} {h' : AH} (h1 : h'.2.2.1 1000000 = h.2.2.1 1000000) (h2 : h.1 ≤ 1000000 → h'.1 ≤ 1000000) : keepS h (some (k, ls, st, h')) := fun q e => by cases e; exact ⟨h1, h2⟩
theorem kS_g {h : AH} {c : Prop} [Decidable c] {x : AR} (hx : c → keepS h x) : keepS h (am_g c x) := fun q e => hx (am_g_some e).1 q (am_g_some e).2
theorem kS_i {h : AH} {c : Prop} [Decidable c] {x y : AR} (hx : keepS h x) (hy : keepS h y) : keepS h (am_if c x y) := by
  unfold am_if
  split
  · exact hx
  · exact hy
theorem kS_sw {h : AH} {x : Int} {ls : AL} {st : List AV} {d : Nat} : ∀ l, keepS h (am_sw x ls st h d l)
  | [] => kS_s rfl (fun z => z)
  | _ :: r => kS_i (kS_s rfl (fun z => z)) (kS_sw r)
theorem kS_br {h : AH} {co : ClassFile.Cond} {a b : Int} {t k : Nat} {ls : AL} {st : List AV} : keepS h (am_br co a b t k ls st h) := by
  cases co <;> exact kS_i (kS_s rfl (fun z => z)) (kS_s rfl (fun z => z))
theorem kS_newo {h : AH} {tag n k : Nat} {ls : AL} {st : List AV} : keepS h (am_newo tag n k ls st h) := by
  obtain ⟨a, b, T, I, J, R⟩ := h
  refine kS_g (fun hc => kS_s ?_ (fun _ => ?_))
  · have hc : a < 1000000 := hc
    show up1 T a (tag, n) 1000000 = T 1000000
    unfold up1
    rw [if_neg (by omega)]
  · exact hc
theorem kS_newm {h : AH} {tag tag2 k : Nat} {ls : AL} {st : List AV} : keepS h (am_newm tag tag2 k ls st h) := by
  obtain ⟨a, b, T, I, J, R⟩ := h
  unfold am_newm
  split
  · refine kS_g (fun hc => kS_s ?_ (fun _ => ?_))
    · dsimp only
      rw [if_neg (by omega), if_neg (by omega)]
    · dsimp only
      omega
  · exact kS_n
theorem stp_keep {i : Instr} {z : Int} {ns : List Nat} {k : Nat} {ls : AL} {st : List AV} {h : AH} : keepS h (stp i z ns k ls st h) := by
  obtain ⟨a, b, T, I, J, R⟩ := h
  cases i <;> simp only [stp, am_bin, am_div, am_binL, am_divL, am_shL, am_ldI, am_ldL, am_ldA, am_stI, am_stL, am_stA, am_newa, am_ald, am_aldL, am_aldA, am_ast, am_astZ, am_astL, am_astA, am_len, am_get, am_put, am_getS, am_aldS, am_lenS] <;> (repeat' (first | exact kS_n | exact kS_sw _ | exact kS_br | exact kS_newo | exact kS_newm | exact kS_s rfl (fun z => z) | (refine kS_g (fun _ => ?_)) | split))
def ovC (c : List Ins) : Bool := c.all (fun q => match q.1 with
  | .baload => decide (0 < q.2.2.getD 0 0)
  | .aaload => decide (0 < q.2.2.getD 0 0)
  | _ => true)
theorem ovA : cdL.all ovC = true := by decide +kernel
theorem ov_code {m k : Nat} {i : Instr} {z : Int} {ns : List Nat} (hf : (codeT m)[k]? = some (i, z, ns)) : (i = .baload → 0 < ns.getD 0 0) ∧ (i = .aaload → 0 < ns.getD 0 0) := by
  have hm : (i, z, ns) ∈ codeT m := List.mem_of_getElem? hf
  have hc : ovC (codeT m) = true := by
    unfold codeT at hm ⊢
    rw [List.getD_eq_getElem?_getD] at hm ⊢
    cases h9 : cdL[m]? with
    | none => rfl
    | some c9 => exact List.all_eq_true.mp ovA c9 (List.mem_of_getElem? h9)
  have := List.all_eq_true.mp hc _ hm
  refine ⟨fun e => ?_, fun e => ?_⟩
  · subst e; simpa using this
  · subst e; simpa using this
theorem rcv_ov {L : Nat} {X : Nat → Int} {mx : Nat} {ns : List Nat} {st : List AV} {h : AH} (h0 : SC0 h) (hr : am_rcv mx ns st h = true) : am_rcv mx ns st (ov L X h) = true := by
  have hc : h.1 ≤ 1000000 := h0.2
  unfold am_rcv at hr ⊢
  simp only [Bool.and_eq_true, Bool.or_eq_true, decide_eq_true_eq] at hr ⊢
  refine ⟨hr.1, hr.2.imp (fun z => z) (fun z => ?_)⟩
  revert z
  split
  · rename_i a ha
    split
    · exact fun z => z
    simp only [Bool.and_eq_true, decide_eq_true_eq]
    rintro ⟨z1, z2⟩
    exact ⟨by show (if a = 1000000 then _ else h.2.2.1 a : Nat × Nat).1 = _; rw [if_neg (by omega)]; exact z1, z2⟩
  · intro z; exact z
theorem ev_ov (L : Nat) (X : Nat → Int) : ∀ (n d m k : Nat) (ls : AL) (st : List AV) (h : AH) (v : Option AV) (h' : AH), ev codeT mX n d m k ls st h = some (v, h') → SC0 h → ev codeT mX n d m k ls st (ov L X h) = some (v, ov L X h') ∧ SC0 h' := by
  intro n
  induction n with
  | zero =>
    intro d m k ls st h v h' e
    cases e
  | succ n ih =>
    intro d m k ls st h v h' e hS
    cases hf : (codeT m)[k]? with
    | none => rw [ev_n codeT mX hf] at e; cases e
    | some q =>
      obtain ⟨i, z, ns⟩ := q
      by_cases h0 : am_kind i ns = 0
      · rw [ev_0 codeT mX hf h0] at e ⊢
        cases hs : stp i z ns k ls st h with
        | none => rw [hs] at e; cases e
        | some q =>
          obtain ⟨k', ls', st', h2⟩ := q
          rw [hs] at e
          have hk := stp_keep _ hs
          rw [stp_ov (L := L) (X := X) hS (ov_code hf).1 (ov_code hf).2 _ hs]
          exact ih _ _ _ _ _ _ _ _ e ⟨by rw [hk.1]; exact hS.1, hk.2 hS.2⟩
      · by_cases h1 : am_kind i ns = 1
        · cases d with
          | zero => rw [ev_10 codeT mX hf h1] at e; cases e
          | succ d =>
            rw [ev_1 codeT mX hf h1] at e ⊢
            cases hr : am_rcv (mX (ns.getD 0 0)) ns st h with
            | false => rw [hr] at e; cases e
            | true =>
              rw [hr] at e
              rw [rcv_ov hS hr]
              dsimp only at e ⊢
              cases hc : ev codeT mX n d (ns.getD 0 0) 0 (am_ent (mX (ns.getD 0 0)) (st.take (ns.getD 1 0)).reverse) [] h with
              | none => rw [hc] at e; cases e
              | some q =>
                obtain ⟨v1, h2⟩ := q
                rw [hc] at e
                obtain ⟨c1, c2⟩ := ih _ _ _ _ _ _ _ _ hc hS
                rw [c1]
                dsimp only at e ⊢
                split at e
                · rename_i h9
                  have h8 : (ov L X h).1 ≤ (ov L X h2).1 ∧ (ov L X h).2.1 ≤ (ov L X h2).2.1 := h9
                  rw [if_pos h8]
                  exact ih _ _ _ _ _ _ _ _ e c2
                · cases e
        · rw [ev_2 codeT mX hf h0 h1] at e ⊢
          split at e
          · cases e
          · rename_i v9 hv9
            cases e
            exact ⟨rfl, hS⟩
theorem wp_ov {L : Nat} {X : Nat → Int} {d m k : Nat} {ls : AL} {st : List AV} {h : AH} {Q : Option AV → AH → Prop} (hS : SC0 h) (w : wp codeT mX d m k ls st h (fun v h' => SC0 h' → Q v (ov L X h'))) : wp codeT mX d m k ls st (ov L X h) Q := by
  obtain ⟨n, v, h', e, q⟩ := w
  obtain ⟨e1, e2⟩ := ev_ov L X n d m k ls st h v h' e hS
  exact ⟨n, v, _, e1, q e2⟩
