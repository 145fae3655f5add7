/-! part 28: all of it -/
theorem hc_all (ρ : Nat → Int) (z : Int) (hz : rg32 z) : ∃ c, rI ρ c z ∧ okC 20000 c = true := by
  unfold rg32 at hz
  by_cases h1 : z < 0
  · exact ⟨_, by unfold rI; rw [if_pos rfl]; dsimp only; omega, okCa⟩
  by_cases h2 : 28 < z
  · exact ⟨_, by unfold rI; rw [if_pos rfl]; dsimp only; omega, okCb⟩
  by_cases e0 : z = 0
  · rw [e0]; exact ⟨_, ck_r _, okC0⟩
  by_cases e1 : z = 1
  · rw [e1]; exact ⟨_, ck_r _, okC1⟩
  by_cases e2 : z = 2
  · rw [e2]; exact ⟨_, ck_r _, okC2⟩
  by_cases e3 : z = 3
  · rw [e3]; exact ⟨_, ck_r _, okC3⟩
  by_cases e4 : z = 4
  · rw [e4]; exact ⟨_, ck_r _, okC4⟩
  by_cases e5 : z = 5
  · rw [e5]; exact ⟨_, ck_r _, okC5⟩
  by_cases e6 : z = 6
  · rw [e6]; exact ⟨_, ck_r _, okC6⟩
  by_cases e7 : z = 7
  · rw [e7]; exact ⟨_, ck_r _, okC7⟩
  by_cases e8 : z = 8
  · rw [e8]; exact ⟨_, ck_r _, okC8⟩
  by_cases e9 : z = 9
  · rw [e9]; exact ⟨_, ck_r _, okC9⟩
  by_cases e10 : z = 10
  · rw [e10]; exact ⟨_, ck_r _, okC10⟩
  by_cases e11 : z = 11
  · rw [e11]; exact ⟨_, ck_r _, okC11⟩
  by_cases e12 : z = 12
  · rw [e12]; exact ⟨_, ck_r _, okC12⟩
  by_cases e13 : z = 13
  · rw [e13]; exact ⟨_, ck_r _, okC13⟩
  by_cases e14 : z = 14
  · rw [e14]; exact ⟨_, ck_r _, okC14⟩
  by_cases e15 : z = 15
  · rw [e15]; exact ⟨_, ck_r _, okC15⟩
  by_cases e16 : z = 16
  · rw [e16]; exact ⟨_, ck_r _, okC16⟩
  by_cases e17 : z = 17
  · rw [e17]; exact ⟨_, ck_r _, okC17⟩
  by_cases e18 : z = 18
  · rw [e18]; exact ⟨_, ck_r _, okC18⟩
  by_cases e19 : z = 19
  · rw [e19]; exact ⟨_, ck_r _, okC19⟩
  by_cases e20 : z = 20
  · rw [e20]; exact ⟨_, ck_r _, okC20⟩
  by_cases e21 : z = 21
  · rw [e21]; exact ⟨_, ck_r _, okC21⟩
  by_cases e22 : z = 22
  · rw [e22]; exact ⟨_, ck_r _, okC22⟩
  by_cases e23 : z = 23
  · rw [e23]; exact ⟨_, ck_r _, okC23⟩
  by_cases e24 : z = 24
  · rw [e24]; exact ⟨_, ck_r _, okC24⟩
  by_cases e25 : z = 25
  · rw [e25]; exact ⟨_, ck_r _, okC25⟩
  by_cases e26 : z = 26
  · rw [e26]; exact ⟨_, ck_r _, okC26⟩
  by_cases e27 : z = 27
  · rw [e27]; exact ⟨_, ck_r _, okC27⟩
  by_cases e28 : z = 28
  · rw [e28]; exact ⟨_, ck_r _, okC28⟩
  omega
theorem all_runs {L : Nat} (hL : L ≤ 6) (xs : Nat → Int32) : wp codeT mX 1000 0 0 lwL [] (ov L (scX L xs) h00) QB := by
  match L, hL with
  | 0, h => exact run_B h okB0 xs
  | 1, h => exact run_B h okB1 xs
  | 2, h => exact run_B h okB2 xs
  | 3, h => exact run_B h okB3 xs
  | 4, h => exact run_B h okB4 xs
  | 5, h => exact run_B h okB5 xs
  | 6, h => exact run_C xs (hc_all _)
  | _ + 7, h => omega
theorem whole_start {p : Program} {e : Env} {s : State} {m : MethodId} {below : List Frame} {meth : Method} {c : Code} (l : Launch) (_ : l.flags = flags0) {b L : Nat} {xs : Nat → Int32} (hL : L ≤ 6) (C0 : lw_At p s m meth c b L xs) : W p l e room_1 s m #[Value.ref b] below meth c s.heap [] 0 0 (lw_Z below #[Value.ref b] s) (entryFrame m ([Value.ref b] : List Value).toArray 4) := by
  obtain ⟨n, v, h', he, rfl, h1, h2⟩ := all_runs hL xs
  exact start_of l C0 he h1 h2
-- ===== YOUR PART ENDS =====
set_option maxHeartbeats 4000000 in
theorem lw_walk (l : Launch) (hflags : l.flags = flags0) (b : Addr) (xs : List Int32) : MetFree l x (headSpec (Jvm.Cond.code x code maxLocals ret :: tables_1) room_1) (lw_P b xs) (fun _ _ _ _ _ => True) lw_Q := by
  refine MetFree.of_bodyS (code := code) (maxLocals := maxLocals) (ret := ret) (by decide) ?_ ?_
  · intro args s m h hn
    obtain ⟨meth, c, h1, h2, h3, h4, h5, h6, -, -⟩ := Cond.code_spec hn (atoms_spec (ws := Jvm.Cond.code x code maxLocals ret :: tables_1) h _ List.mem_cons_self)
    exact ⟨meth, c, h1, h2, h3, h4, h5, h6⟩
  · intro p e s m args below meth c s₁ B hml0 hP _
    obtain ⟨rfl, hx, hbd, hgv⟩ := hP
    obtain ⟨scr, harrAt, hlist, hof, hsmall⟩ := hx
    obtain ⟨hcb, hkn, -, -⟩ := State.arrayAt?_spec harrAt
    have hown : s.vm.findClass R_law = some m.cls := findClass_of_methodNamed B.named
    have hts0 : ∀ c ∈ (Jvm.Cond.code x code maxLocals ret :: tables_1), c.before #[Value.ref b] s = true := atoms_spec (ws := Jvm.Cond.code x code maxLocals ret :: tables_1) B.pre
    have hts : ∀ w ∈ lw_tbl, w.before #[Value.ref b] s = true := k2_hts_sels lw_privs (fun w hw => hts0 w (List.mem_cons_of_mem _ hw)) lw_privs_ok
    have hml : c.maxLocals = 4 := B.maxLocals_eq (hts0 _ List.mem_cons_self)
    have X₀ : Stand p l e room_1 s m #[Value.ref b] below meth c s₁ [] 0 0 := Stand.of_body B
    have hh0 : s₁.heap = s.heap := by rw [B.state]; rfl
    have hsz : scr.slots.size = xs.length := by rw [← Array.length_toList, hlist, List.length_map]
    have hval : ∀ j : Nat, j < xs.length → scr.slots[j]? = some (.int (xs.getD j 0)) := fun j hj => by
      rw [← Array.getElem?_toList, hlist]
      simp [hj]
    have hbl : b < s.heap.size := (Array.getElem?_eq_some_iff.mp hcb).1
    have hX : va_X b xs.length (fun j => xs.getD j 0) s s.heap := ⟨scr, hcb, hof, hkn, hsz, hval⟩
    have K : W p l e room_1 s m #[Value.ref b] below meth c s₁.heap [] 0 0 (lw_Z below #[Value.ref b] s) (entryFrame m ([Value.ref b] : List Value).toArray 4) := by
      rw [hh0]
      exact whole_start l hflags hbd ⟨B.exec, B.bytes, B.returns, hml, hown, hts, hX, hbl, B.notSynchronized, hgv⟩
    obtain ⟨t, a1, o, b1, b2, b3⟩ := K s₁ rfl X₀
    exact ⟨t, o, a1, b1, b2, b3⟩
theorem lw_pre_spec {args : Array Value} {s : State} (h : (Jvm.Cond.and given_1 narrow_1).before args s = true) (hr : rest_1_c.before args s = true) : ∃ (b : Addr) (xs : List Int32), lw_P b xs args s := by
  have hs := flat_of_before _ h
  have hq := flat_of_before _ hr
  have hc : (Cond.count 1).before args s = true := hs _ (by decide +kernel)
  have harr : (Cond.arrayOf (.arg 0) .int).before args s = true := hs _ (by decide +kernel)
  have hle : (Cond.le (.length (.arg 0)) (.int 6)).before args s = true := hs _ (by decide +kernel)
  have hlen : (Cond.isInt (.length (.arg 0))).before args s = true := hq _ (by decide +kernel)
  have hall : (Cond.all (.arg 0) (.isInt (.elem (.arg 0) (.index 0)))).before args s = true := hq _ (by decide +kernel)
  obtain ⟨b, xs, hb, hx⟩ := State.ints_of_pre rfl harr hlen hall
  have hsm : xs.length < 2 ^ 31 := hx.choose_spec.2.2.2
  have hev : (Term.length (.arg 0)).eval args s none [] s = some (.int xs.length.toInt32) := hx.length_eval hb
  have hv := Cond.le_ints hev (show (Term.int 6).eval args s none [] s = some (.int 6) from rfl)
  have hd : xs.length.toInt32 ≤ 6 := by
    simpa [Cond.before, Cond.holds, hv] using hle
  have hN : xs.length ≤ 6 := (Int32.ofNat_le_ofNat hsm (by decide)).mp (show Int32.ofNat xs.length ≤ Int32.ofNat 6 from hd)
  exact ⟨b, xs, Cond.one_arg hc (show args[0]? = some (.ref b) from hb), hx, hN, h⟩
theorem lw_comes (l : Launch) (hflags : l.flags = flags0) : Comes l x (Jvm.Cond.code x code maxLocals ret :: tables_1) room_1 (fun tb e args s => Calls_1 tb e args s ∧ rest_1 tb e args s ∧ Pre_1 tb e args s)
    (fun _ _ args s o t => lw_Q args s o t) := by
  intro p e ha hc hk s m args below hf hfit hheap happ hpre
  obtain ⟨b, xs, hP⟩ := lw_pre_spec hpre.2.2 hpre.2.1
  obtain ⟨k, o, h1, h2, h3, hQ⟩ := lw_walk l hflags b xs p e ha hc hk s m args below hf ((Spec.applies_iff_loose hf).mp happ).1 hP trivial
  exact ⟨k, o, h1, h2, h3, hQ⟩
theorem lw_frame {s t : State} {o : Outcome} {args : Array Value} (h : Framed s o t [] 600000 7302250) :
    Framed s o t (fieldLocs frame_1_writes args s ++ arrayLocs frame_1_arrays args s ++ staticLocs frame_1_statics s) 600000 7302250 := h
theorem lw_limb (L : Cond) (hL : ∀ (args : Array Value) (s t : State), L.after args s (.returned (some (.int 1))) t = true) :
    ArmFor flags0 classFile x code maxLocals ret World_1 tables_1 room_1 Calls_1 rest_1 Pre_1
      (fun tb e a s o t => postC L tb e a s o t ∧ Framed s o t (fieldLocs frame_1_writes a s ++ arrayLocs frame_1_arrays a s ++ staticLocs frame_1_statics s) 600000 7302250) := by
  intro l hflags _ _ p e ha hc hk s m args below hf hfit hheap happ hpre
  obtain ⟨k, o, h1, h2, h3, rfl, hF⟩ := lw_comes l hflags p e ha hc hk s m args below hf hfit hheap happ hpre
  exact ⟨k, _, h1, h2, h3, hL args s _, lw_frame hF⟩
theorem i_vc : Claimed_1_1 ∧ Claimed_1_2 := ⟨lw_limb limb_1_1 (fun args s t => by simp [limb_1_1, Cond.after, Cond.holds, Cond.value]), lw_limb limb_1_2 (fun args s t => Cond.after_iff.mpr (by
  first | (rw [show limb_1_2 = Cond.eq .result (.int 1) from rfl, Cond.eq_ints (x := 1) (y := 1) rfl rfl]; simp; done) | (simp [limb_1_2, Cond.value, Term.eval]; done)))⟩
