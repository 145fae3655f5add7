/-! part 13: every instruction of every method is what the tables say -/
theorem metB_td {oi : Nat} {ct : Bool} {ret : Option FieldType} {B : ByteArray} {tg : Nat → Nat} : ∀ (a : Nat) (cs : List Ins) (ps : List Nat), metB oi ct ret B tg (cs.take a) ps = true → metB oi ct ret B tg (cs.drop a) (ps.drop a) = true → metB oi ct ret B tg cs ps = true
  | 0, _, _, _, h2 => h2
  | _ + 1, [], _, _, _ => rfl
  | a + 1, (i, z, ns) :: cs, pc :: pc' :: ps, h1, h2 => by
    rw [List.take_succ_cons, metB, Bool.and_eq_true] at h1
    rw [metB, Bool.and_eq_true]
    exact ⟨h1.1, metB_td a cs (pc' :: ps) h1.2 h2⟩
  | _ + 1, _ :: _, [], h1, _ => by rw [List.take_succ_cons] at h1; exact h1
  | _ + 1, _ :: _, [_], h1, _ => by rw [List.take_succ_cons] at h1; exact h1
def met0 (cs : List Ins) (ps : List Nat) : Bool := metB 13 false (some .boolean) code (fun j => pc0.getD j 0) cs ps
theorem me0_0 : met0 ((cd0.drop 0).take 40) (pc0.drop 0) = true := by decide +kernel
theorem me0_1 : met0 ((cd0.drop 40).take 40) (pc0.drop 40) = true := by decide +kernel
theorem me0_2 : met0 ((cd0.drop 80).take 40) (pc0.drop 80) = true := by decide +kernel
theorem me0_3 : met0 ((cd0.drop 120).take 40) (pc0.drop 120) = true := by decide +kernel
theorem me0_4 : met0 ((cd0.drop 160).take 40) (pc0.drop 160) = true := by decide +kernel
theorem me0_5 : met0 ((cd0.drop 200).take 40) (pc0.drop 200) = true := by decide +kernel
theorem me0_6 : met0 ((cd0.drop 240).take 40) (pc0.drop 240) = true := by decide +kernel
theorem me0_7 : met0 ((cd0.drop 280).take 40) (pc0.drop 280) = true := by decide +kernel
theorem me0_8 : met0 ((cd0.drop 320).take 40) (pc0.drop 320) = true := by decide +kernel
theorem me0_9 : met0 ((cd0.drop 360).take 40) (pc0.drop 360) = true := by decide +kernel
theorem me0_10 : met0 ((cd0.drop 400).take 40) (pc0.drop 400) = true := by decide +kernel
