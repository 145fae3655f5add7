/-! part 12: the induction -/
theorem n_of_mp {c n : Nat} (h1 : 1 ≤ c) (h2 : c < 226) (h : n = mP c) : (parseMethodDescriptor (mY c).desc).map (fun d => d.parameters.length) = some n := by
  rw [h]; exact (mt_ok h1 h2).2.2.2.2.2.2.1
theorem st_split {st : List AV} {na : Nat} {x : AV} (h0 : 1 ≤ na) (hx : st[na - 1]? = some x) : (st.take na).reverse = x :: (st.take (na - 1)).reverse := by
  have : st.take na = st.take (na - 1) ++ [x] := by
    have e := List.take_add_one (l := st) (i := na - 1)
    rw [show na - 1 + 1 = na by omega, hx] at e
    exact e
  rw [this, List.reverse_append]
  rfl
set_option maxHeartbeats 2000000 in
theorem frm (hmet : ∀ mi, mi < 226 → metC mi = true) : ∀ n, FRM n := by
  intro n
  induction n with
  | zero =>
    intro d mi k ls st h v h' he
    cases he
  | succ n ih =>
    intro d mi k ls st h v h' he hmi p l e R s m args below meth c Q tyC D b L sa base xs A ad0 c0 s0 X hfr hlo hroom RT
    cases hf : (codeT mi)[k]? with
    | none => rw [ev_n codeT mX hf] at he; cases he
    | some q =>
      obtain ⟨i, z, ns⟩ := q
      have hI : insB (mO mi) (decide ((mY mi).name = "<init>")) (mR mi) (mB mi) ((pcT mi).getD k 0) ((pcT mi).getD (k + 1) 0) (fun j => (pcT mi).getD j 0) i z ns = true := metB_at _ _ (hmet mi hmi) k i z ns hf
      by_cases h0 : am_kind i ns = 0
      · rw [ev_0 codeT mX hf h0] at he
        cases hs : stp i z ns k ls st h with
        | none => rw [hs] at he; cases he
        | some q =>
          obtain ⟨k', ls', st', h2⟩ := q
          rw [hs] at he
          have hg := ev_grow codeT mX _ _ _ _ _ _ _ _ _ he
          have hk := ih d mi k' ls' st' h2 v h' he hmi p l e R s m args below meth c Q tyC D b L sa base xs A ad0 c0 s0 X hfr hlo hroom RT
          exact stp_snd (pcs := fun j => (pcT mi).getD j 0) X hI h0 (by omega) (by omega) (q := (k', ls', st', h2)) (by dsimp only; omega) hs hk
      · by_cases h1 : am_kind i ns = 1
        · cases d with
          | zero => rw [ev_10 codeT mX hf h1] at he; cases he
          | succ d =>
            rw [ev_1 codeT mX hf h1] at he
            cases hr : am_rcv (mX (ns.getD 0 0)) ns st h with
            | false => rw [hr] at he; cases he
            | true =>
              rw [hr] at he
              dsimp only at he
              cases hc : ev codeT mX n d (ns.getD 0 0) 0 (am_ent (mX (ns.getD 0 0)) (st.take (ns.getD 1 0)).reverse) [] h with
              | none => rw [hc] at he; cases he
              | some q =>
                obtain ⟨v1, h2⟩ := q
                rw [hc] at he
                dsimp only at he
                split at he
                · rename_i h9
                  have hg := ev_grow codeT mX _ _ _ _ _ _ _ _ _ he
                  have hk := ih (d + 1) mi (k + 1) ls _ h2 v h' he hmi p l e R s m args below meth c Q tyC D b L sa base xs A ad0 c0 s0 X hfr hlo hroom RT
                  obtain ⟨k1, k2, k3, k4⟩ := am_rcv_of hr
                  have Wd := CTX_Wd X
                  obtain ⟨hx, hb, hml, hown, hts, hK, hN, hao, hA, hct, hX, hbb, hbs, hbA⟩ := id X
                  intro ad H locs cls cells slots hR hS hl hst hcc hss
                  have hTx2 : TxE sa base s H := TxE_kept hao.2.2 (fun a h8 h9 => hS.2.1 a h8 (fun z9 => h9 (hbA a z9)))
                  have hX2 : va_X b L xs s H := va_X.kept hX (by
                    obtain ⟨scr, q9, -⟩ := hX
                    rw [hS.2.1 b (by omega) (fun z9 => by have := hbA _ z9; omega)])
                  have hsz : base ≤ H.size := Nat.le_trans hbs hS.1
                  have hst1 : ∀ w ∈ (st.take (ns.getD 1 0)).reverse, inR h.1 w := fun w hw => hst w (List.mem_of_mem_take (List.mem_reverse.mp hw))
                  have hst2 : ∀ w ∈ st.drop (ns.getD 1 0), inR h.1 w := fun w hw => hst w (List.mem_of_mem_drop hw)
                  have hcat : am_cats (st.take (ns.getD 1 0)).reverse ≤ mX (ns.getD 0 0) := by rw [am_cats_rev]; exact k1
                  have hR2 : RepE tyC D b L sa base xs ad h.1 (va_A (wsE tyC ad h) H.size) ad h H := by
                    obtain ⟨p1, p2, p3, p4, p5, p6, p7, p8, p9, p10⟩ := hR
                    exact ⟨p1, p2.self, p3, p4, p5, p6, p7, p8, p9, fun a ha => ⟨(p10 a ha).1, fun _ => rfl⟩⟩
                  have hpre : ∀ (As : List AV) (U : State), U.heap = H → s.WarmedH U.vm → PcE tyC D b L sa base xs As ad h H.size (As.map (cvv ad)).toArray U := by
                    intro As U hU hW
                    refine ⟨rfl, by rw [hU], by rw [hU]; exact hR2, WdE_warm hW Wd, ?_, by rw [hU]; exact hsz⟩
                    rw [hU]
                    exact ⟨va_X.moved hW.alike hX2, TxE_warm hW hTx2⟩
                  have hmc : h.1 + (h2.1 - h.1) = h2.1 := by omega
                  have hms : h.2.1 + (h2.2.1 - h.2.1) = h2.2.1 := by omega
                  have hbd : cells + (h2.1 - h.1) ≤ R.cells ∧ slots + (h2.2.1 - h.2.1) ≤ R.slots := by omega
                  have hroomR : ∀ x, x ≤ 45 → (d + 1) + 1 ≤ R.frames ∧ 8 + (x + 11) + (64 * d + 64) ≤ R.locals := fun x hx9 => by omega
                  have hWst : 2 * (F0 m ((pcT mi).getD k 0) cls (st.map (cvv ad))).monitorRoom + (((st.drop (ns.getD 1 0)).map (cvv ad)).map fun v => v.category).sum ≤ 8 := lv_room (by rw [cats_map]; exact k2)
                  cases i with
                  | invokevirtual ix =>
                    have hI : (dk (mB mi) ((pcT mi).getD k 0) ((pcT mi).getD (k + 1) 0) (.invokevirtual ix) 3 && (ns.getD 0 0 == 900 || ((ns.getD 2 0 == 1) && crB (mO mi) ix 0 (ns.getD 0 0) (ns.getD 1 0) (ns.getD 3 0) || (ns.getD 2 0 == 2) && crB (mO mi) ix 4 (ns.getD 0 0) (ns.getD 1 0) (ns.getD 3 0)))) = true := hI
                    simp only [Bool.and_eq_true, Bool.or_eq_true, beq_iff_eq] at hI
                    obtain ⟨hd, hI⟩ := hI
                    obtain ⟨hd, hp⟩ := dk_of hd
                    rcases hI with q9 | ⟨q8, q9⟩ | ⟨q8, q9⟩
                    · rw [q9] at hc
                      cases n with
                      | zero => cases hc
                      | succ n => rw [ev_n codeT mX cd900] at hc; cases hc
                    · obtain ⟨⟨n1, n2⟩, w1, w2, w3, hna, qv, hqv, hqc⟩ := cr0 q9
                      rcases k4 with k4 | ⟨k4, -⟩ | ⟨-, a, ha, hta, hac⟩
                      · omega
                      · omega
                      · obtain ⟨m1, m2, -, m4, m5, m6, m7, m8⟩ := mt_ok n1 n2
                        have hsp := st_split (by omega) ha
                        have hM := met_of ih n1 n2 hc hcat l tyC D b L sa base xs ad H.size hst1
                        have hlen : ((st.take (ns.getD 1 0 - 1)).reverse.map (cvv ad)).length = mP (ns.getD 0 0) := by
                          rw [List.length_map, List.length_reverse, List.length_take]
                          omega
                        have hat := wsE_at (tyC := tyC) (ad := ad) hac
                        have htag : ns.getD 3 0 < 100 := by
                          have := (List.getElem?_eq_some_iff.mp hqv).1
                          have h13 : vwCl.length = 13 := rfl
                          omega
                        unfold ceE at hat
                        rw [if_pos (by omega), hta] at hat
                        have hrec := va_recv hK hR.1 hqv hat
                        rw [hqc] at hrec
                        have hcw : CallW R s args (ownN (mO mi)) (mY (ns.getD 0 0)).cls ix (mY (ns.getD 0 0)) (mB (ns.getD 0 0)) (mX (ns.getD 0 0)) (mR (ns.getD 0 0)) (wsM (ns.getD 0 0)) { frames := d + 1, cells := h2.1 - h.1, slots := h2.2.1 - h.2.1, locals := 64 * d + 64 } (h2.1 - h.1) (h2.2.1 - h.2.1) (mP (ns.getD 0 0)) :=
                          ⟨callB_of (mP (ns.getD 0 0)) hts (good_wsM n1 n2) rfl rfl rfl (hts _ m2) (hts _ w1) ⟨m5, m6, m7⟩ (hroomR _ m4), hts _ w2, hts _ w3⟩
                        have hstk : st.map (cvv ad) = ((st.take (ns.getD 1 0 - 1)).reverse.map (cvv ad)).reverse ++ .ref (ad a) :: (st.drop (ns.getD 1 0)).map (cvv ad) := by
                          have e1 : st = st.take (ns.getD 1 0) ++ st.drop (ns.getD 1 0) := (List.take_append_drop _ _).symm
                          have e2 : st.take (ns.getD 1 0) = st.take (ns.getD 1 0 - 1) ++ [.inr (.inr (some a))] := by
                            have := congrArg List.reverse hsp
                            simpa using this
                          have e3 : st.map (cvv ad) = (st.take (ns.getD 1 0) ++ st.drop (ns.getD 1 0)).map (cvv ad) := congrArg (List.map (cvv ad)) e1
                          rw [e3, e2]
                          simp [cvv]
                        have hpr : PreV s H (mY (ns.getD 0 0)).cls (ad a) (PcE tyC D b L sa base xs (st.take (ns.getD 1 0)).reverse ad h H.size) ((st.take (ns.getD 1 0 - 1)).reverse.map (cvv ad)) := by
                          refine ⟨PcE_blind, hrec, fun U hU hW => ?_⟩
                          have := hpre (st.take (ns.getD 1 0)).reverse U hU hW
                          rw [hsp] at this ⊢
                          exact this
                        exact back_snd (va_runV (As := (st.take (ns.getD 1 0 - 1)).reverse.map (cvv ad)) (rest := (st.drop (ns.getD 1 0)).map (cvv ad)) ⟨hx, hb, hml, hown, hts⟩ hM hcw hpr rfl hlen hl.2.1.1 hstk hWst hd hbd) hmc hms hA hR hS hl hst2 hcc hss (by rw [← hp]; exact hk)
                    · obtain ⟨⟨n1, n2⟩, w1, w2, w3, hna, hqc⟩ := cr4 q9
                      rcases k4 with k4 | ⟨-, ha⟩ | ⟨k5, -⟩
                      · omega
                      rotate_left
                      · omega
                      · obtain ⟨m1, m2, -, m4, m5, m6, m7, m8⟩ := mt_ok n1 n2
                        have hsp := st_split (by omega) ha
                        have hM := met_of ih n1 n2 hc hcat l tyC D b L sa base xs ad H.size hst1
                        have hlen : ((st.take (ns.getD 1 0 - 1)).reverse.map (cvv ad)).length = mP (ns.getD 0 0) := by
                          rw [List.length_map, List.length_reverse, List.length_take]
                          omega
                        have hrec : ∃ cell : Cell, H[ad 1000001]? = some cell ∧ cell.vm.isStatics = false ∧ s.vm.findClass (mY (ns.getD 0 0)).cls = some cell.cls := by
                          obtain ⟨-, -, -, -, -, -, g4, -⟩ := id hR
                          rw [g4.1, hqc]
                          exact vk_recv (i := 0) (vk_S.narrow hao.2.2.2.1 hbA) (by decide) hS
                        have hcw : CallW R s args (ownN (mO mi)) (mY (ns.getD 0 0)).cls ix (mY (ns.getD 0 0)) (mB (ns.getD 0 0)) (mX (ns.getD 0 0)) (mR (ns.getD 0 0)) (wsM (ns.getD 0 0)) { frames := d + 1, cells := h2.1 - h.1, slots := h2.2.1 - h.2.1, locals := 64 * d + 64 } (h2.1 - h.1) (h2.2.1 - h.2.1) (mP (ns.getD 0 0)) :=
                          ⟨callB_of (mP (ns.getD 0 0)) hts (good_wsM n1 n2) rfl rfl rfl (hts _ m2) (hts _ w1) ⟨m5, m6, m7⟩ (hroomR _ m4), hts _ w2, hts _ w3⟩
                        have hstk : st.map (cvv ad) = ((st.take (ns.getD 1 0 - 1)).reverse.map (cvv ad)).reverse ++ .ref (ad 1000001) :: (st.drop (ns.getD 1 0)).map (cvv ad) := by
                          have e1 : st = st.take (ns.getD 1 0) ++ st.drop (ns.getD 1 0) := (List.take_append_drop _ _).symm
                          have e2 : st.take (ns.getD 1 0) = st.take (ns.getD 1 0 - 1) ++ [.inr (.inr (some 1000001))] := by
                            have := congrArg List.reverse hsp
                            simpa using this
                          have e3 : st.map (cvv ad) = (st.take (ns.getD 1 0) ++ st.drop (ns.getD 1 0)).map (cvv ad) := congrArg (List.map (cvv ad)) e1
                          rw [e3, e2]
                          simp [cvv]
                        have hpr : PreV s H (mY (ns.getD 0 0)).cls (ad 1000001) (PcE tyC D b L sa base xs (st.take (ns.getD 1 0)).reverse ad h H.size) ((st.take (ns.getD 1 0 - 1)).reverse.map (cvv ad)) := by
                          refine ⟨PcE_blind, hrec, fun U hU hW => ?_⟩
                          have := hpre (st.take (ns.getD 1 0)).reverse U hU hW
                          rw [hsp] at this ⊢
                          exact this
                        exact back_snd (va_runV (As := (st.take (ns.getD 1 0 - 1)).reverse.map (cvv ad)) (rest := (st.drop (ns.getD 1 0)).map (cvv ad)) ⟨hx, hb, hml, hown, hts⟩ hM hcw hpr rfl hlen hl.2.1.1 hstk hWst hd hbd) hmc hms hA hR hS hl hst2 hcc hss (by rw [← hp]; exact hk)
                  | invokestatic ix =>
                    have hI : (dk (mB mi) ((pcT mi).getD k 0) ((pcT mi).getD (k + 1) 0) (.invokestatic ix) 3 && (ns.getD 0 0 == 900 || (ns.getD 2 0 == 0) && crB (mO mi) ix 1 (ns.getD 0 0) (ns.getD 1 0) 0)) = true := hI
                    simp only [Bool.and_eq_true, Bool.or_eq_true, beq_iff_eq] at hI
                    obtain ⟨hd, q9⟩ := hI
                    obtain ⟨hd, hp⟩ := dk_of hd
                    rcases q9 with q9 | ⟨-, q9⟩
                    · rw [q9] at hc
                      cases n with
                      | zero => cases hc
                      | succ n => rw [ev_n codeT mX cd900] at hc; cases hc
                    obtain ⟨⟨n1, n2⟩, w1, w2, hna⟩ := cr1 q9
                    obtain ⟨m1, m2, -, m4, m5, m6, m7, m8⟩ := mt_ok n1 n2
                    have hM := met_of ih n1 n2 hc hcat l tyC D b L sa base xs ad H.size hst1
                    have hlen : ((st.take (ns.getD 1 0)).reverse.map (cvv ad)).length = mP (ns.getD 0 0) := by
                      rw [List.length_map, List.length_reverse, List.length_take]
                      omega
                    have hstk : st.map (cvv ad) = ((st.take (ns.getD 1 0)).reverse.map (cvv ad)).reverse ++ (st.drop (ns.getD 1 0)).map (cvv ad) := by
                      have e1 : st = st.take (ns.getD 1 0) ++ st.drop (ns.getD 1 0) := (List.take_append_drop _ _).symm
                      have e3 : st.map (cvv ad) = (st.take (ns.getD 1 0) ++ st.drop (ns.getD 1 0)).map (cvv ad) := congrArg (List.map (cvv ad)) e1
                      rw [e3]
                      simp
                    have hcw : CallB R s args (ownN (mO mi)) ix (mY (ns.getD 0 0)) (mB (ns.getD 0 0)) (mX (ns.getD 0 0)) (mR (ns.getD 0 0)) (wsM (ns.getD 0 0)) { frames := d + 1, cells := h2.1 - h.1, slots := h2.2.1 - h.2.1, locals := 64 * d + 64 } (h2.1 - h.1) (h2.2.1 - h.2.1) (mP (ns.getD 0 0)) :=
                      callB_of (mP (ns.getD 0 0)) hts (good_wsM n1 n2) rfl rfl rfl (hts _ m2) (hts _ w1) ⟨m5, m6, m7⟩ (hroomR _ m4)
                    exact back_snd (va_runS (As := (st.take (ns.getD 1 0)).reverse.map (cvv ad)) (rest := (st.drop (ns.getD 1 0)).map (cvv ad)) ⟨hx, hb, hml, hown, hts⟩ hM ⟨hcw, hts _ w2⟩ ⟨PcE_blind, fun U hU hW => hpre _ U hU hW⟩ rfl hlen hl.2.1.1 hstk hWst hd hbd) hmc hms hA hR hS hl hst2 hcc hss (by rw [← hp]; exact hk)
                  | invokespecial ix =>
                    have hI : (dk (mB mi) ((pcT mi).getD k 0) ((pcT mi).getD (k + 1) 0) (.invokespecial ix) 3 && (if ns.length = 0 then obB (mO mi) ix else (ns.getD 2 0 == 1) && (crB (mO mi) ix 2 (ns.getD 0 0) (ns.getD 1 0) (ns.getD 3 0) || crB (mO mi) ix 3 (ns.getD 0 0) (ns.getD 1 0) (ns.getD 3 0)))) = true := hI
                    have hnl : ¬ ns.length = 0 := by
                      intro q9
                      simp only [am_kind] at h1
                      rw [if_pos q9] at h1
                      cases h1
                    rw [if_neg hnl] at hI
                    simp only [Bool.and_eq_true, Bool.or_eq_true, beq_iff_eq] at hI
                    obtain ⟨hd, q8, q9⟩ := hI
                    obtain ⟨hd, hp⟩ := dk_of hd
                    rcases k4 with k4 | ⟨k4, -⟩ | ⟨-, a, ha, hta, hac⟩
                    · omega
                    · omega
                    · rcases q9 with q9 | q9
                      · obtain ⟨⟨n1, n2⟩, w1, w2, hna, hy1, hret⟩ := cr2 q9
                        obtain ⟨m1, m2, -, m4, m5, m6, m7, m8⟩ := mt_ok n1 n2
                        have hsp := st_split (by omega) ha
                        have hM := met_of ih n1 n2 hc hcat l tyC D b L sa base xs ad H.size hst1
                        have hlen : ((st.take (ns.getD 1 0 - 1)).reverse.map (cvv ad)).length = mP (ns.getD 0 0) := by
                          rw [List.length_map, List.length_reverse, List.length_take]
                          omega
                        have hstk : st.map (cvv ad) = ((st.take (ns.getD 1 0 - 1)).reverse.map (cvv ad)).reverse ++ .ref (ad a) :: (st.drop (ns.getD 1 0)).map (cvv ad) := by
                          have e1 : st = st.take (ns.getD 1 0) ++ st.drop (ns.getD 1 0) := (List.take_append_drop _ _).symm
                          have e2 : st.take (ns.getD 1 0) = st.take (ns.getD 1 0 - 1) ++ [.inr (.inr (some a))] := by
                            have := congrArg List.reverse hsp
                            simpa using this
                          have e3 : st.map (cvv ad) = (st.take (ns.getD 1 0) ++ st.drop (ns.getD 1 0)).map (cvv ad) := congrArg (List.map (cvv ad)) e1
                          rw [e3, e2]
                          simp [cvv]
                        have hpr : PreS s H (PcE tyC D b L sa base xs (st.take (ns.getD 1 0)).reverse ad h H.size) (.ref (ad a) :: (st.take (ns.getD 1 0 - 1)).reverse.map (cvv ad)) := by
                          refine ⟨PcE_blind, fun U hU hW => ?_⟩
                          have := hpre (st.take (ns.getD 1 0)).reverse U hU hW
                          rw [hsp] at this ⊢
                          exact this
                        have hcw : CallB R s args (ownN (mO mi)) ix (mY (ns.getD 0 0)) (mB (ns.getD 0 0)) (mX (ns.getD 0 0)) none (wsM (ns.getD 0 0)) { frames := d + 1, cells := h2.1 - h.1, slots := h2.2.1 - h.2.1, locals := 64 * d + 64 } (h2.1 - h.1) (h2.2.1 - h.2.1) (mP (ns.getD 0 0)) :=
                          callB_of (mP (ns.getD 0 0)) hts (good_wsM n1 n2) (by unfold wsM; rw [hret]) rfl rfl (hts _ m2) (hts _ w1) ⟨m5, m6, m7⟩ (hroomR _ m4)
                        exact back_snd (va_runI (As := (st.take (ns.getD 1 0 - 1)).reverse.map (cvv ad)) (rest := (st.drop (ns.getD 1 0)).map (cvv ad)) ⟨hx, hb, hml, hown, hts⟩ hM ⟨hcw, hy1, hts _ w2⟩ hpr rfl hlen hl.2.1.1 hstk hWst hd hbd) hmc hms hA hR hS hl hst2 hcc hss (by rw [← hp]; exact hk)
                      · obtain ⟨⟨n1, n2⟩, w1, w2, hna, hy1, hret⟩ := cr3 q9
                        obtain ⟨m1, m2, -, m4, m5, m6, m7, m8⟩ := mt_ok n1 n2
                        have hsp := st_split (by omega) ha
                        have hM := met_of ih n1 n2 hc hcat l tyC D b L sa base xs ad H.size hst1
                        have hlen : ((st.take (ns.getD 1 0 - 1)).reverse.map (cvv ad)).length = mP (ns.getD 0 0) := by
                          rw [List.length_map, List.length_reverse, List.length_take]
                          omega
                        have hstk : st.map (cvv ad) = ((st.take (ns.getD 1 0 - 1)).reverse.map (cvv ad)).reverse ++ .ref (ad a) :: (st.drop (ns.getD 1 0)).map (cvv ad) := by
                          have e1 : st = st.take (ns.getD 1 0) ++ st.drop (ns.getD 1 0) := (List.take_append_drop _ _).symm
                          have e2 : st.take (ns.getD 1 0) = st.take (ns.getD 1 0 - 1) ++ [.inr (.inr (some a))] := by
                            have := congrArg List.reverse hsp
                            simpa using this
                          have e3 : st.map (cvv ad) = (st.take (ns.getD 1 0) ++ st.drop (ns.getD 1 0)).map (cvv ad) := congrArg (List.map (cvv ad)) e1
                          rw [e3, e2]
                          simp [cvv]
                        have hpr : PreS s H (PcE tyC D b L sa base xs (st.take (ns.getD 1 0)).reverse ad h H.size) (.ref (ad a) :: (st.take (ns.getD 1 0 - 1)).reverse.map (cvv ad)) := by
                          refine ⟨PcE_blind, fun U hU hW => ?_⟩
                          have := hpre (st.take (ns.getD 1 0)).reverse U hU hW
                          rw [hsp] at this ⊢
                          exact this
                        exact back_snd (va_runIN (As := (st.take (ns.getD 1 0 - 1)).reverse.map (cvv ad)) (rest := (st.drop (ns.getD 1 0)).map (cvv ad)) ⟨hx, hb, hml, hown, hts⟩ hM ⟨va_cnB (mP (ns.getD 0 0)) hts (good_wsM n1 n2) (by unfold wsM; rw [hret]) rfl rfl (hN _ w1) (hts _ m2) ⟨m5, m6, m7⟩ (hroomR _ m4), hy1, hts _ w2⟩ hpr rfl hlen hl.2.1.1 hstk hWst hd hbd) hmc hms hA hR hS hl hst2 hcc hss (by rw [← hp]; exact hk)
                  | _ => simp [am_kind] at h1
                · cases he
        · rw [ev_2 codeT mX hf h0 h1] at he
          cases hr : am_ret i ns st with
          | none => rw [hr] at he; cases he
          | some v2 =>
            rw [hr] at he
            cases he
            exact RT k i z ns ls st hI h0 h1 hr
