/-! THE LAW: every run of calls (pure) -/
set_option maxRecDepth 100000 in
set_option maxHeartbeats 4000000 in
theorem law_step {L : Nat} (hL : L ≤ 3072) (xs : Nat → Int32) {n c b : Nat} {I B : iT} {J : jT} {F : fT} (H : HS b I B J F) (hb : 85 ≤ b ∧ b + 2 ≤ 9000) (hc : 6 * c + 6 ≤ L) (hrec : ∀ (I B : iT) (J : jT) (F : fT), HS (b + 2) I B J F → mLaw L xs n I B J F (nI (6 * (c + 1))) = some 1) : mLaw L xs (n + 1) I B J F (nI (6 * c)) = some 1 := by
  have e6 : nI (6 * c) + (6 : Int32) = nI (6 * (c + 1)) := nI_add (6 * c) 6
  have ix : ∀ j : Nat, j < 6 → inb (nI (6 * c) + nI j) L := fun j hj => by
    rw [nI_add]
    exact vp_in_nI (by omega) (by omega)
  have ib0 : inb (nI (6 * c)) L := vp_in_nI (by omega) (by omega)
  have ib1 : inb (nI (6 * c) + 1) L := ix 1 (by omega)
  have ib2 : inb (nI (6 * c) + 2) L := ix 2 (by omega)
  have ib3 : inb (nI (6 * c) + 3) L := ix 3 (by omega)
  have ib4 : inb (nI (6 * c) + 4) L := ix 4 (by omega)
  have ib5 : inb (nI (6 * c) + 5) L := ix 5 (by omega)
  have hgo : ¬ (nI L - 6 : Int32) < nI (6 * c) := by
    have e : (nI L - 6 : Int32) = nI (L - 6) := pk_sub (a := L) (b := 6) (by omega)
    rw [e]
    exact nI_nlt (by omega) (by omega)
  have he : ∀ (I B : iT) (J : jT) (F : fT), HS (b + 2) I B J F → mLaw L xs n I B J F (nI (6 * c) + 6) = some 1 := fun I B J F h => by rw [e6]; exact hrec I B J F h
  have up : ∀ {I B : iT} {J : jT} {F : fT}, HS b I B J F → HS (b + 2) I B J F := fun h => hs_mono h (by omega)
  rw [mLaw, if_neg hgo, if_pos ib0]
  generalize nI (6 * c) = x0 at *
  generalize xs x0.toNatClampNeg &&& 31 = w
  by_cases c0 : w = 0
  · obtain ⟨r, I2, B2, e1, e2, H2⟩ := op_feed H (xs (x0 + 1).toNatClampNeg) (xs (x0 + 2).toNatClampNeg) (xs (x0 + 3).toNatClampNeg) (xs (x0 + 4).toNatClampNeg) (xs (x0 + 5).toNatClampNeg)
    rw [if_pos c0, if_pos ib1, if_pos ib2, if_pos ib3, if_pos ib4, if_pos ib5]
    rw [e1, Option.bind_some, if_pos ib1, if_pos ib2, if_pos ib3, if_pos ib4, if_pos ib5, e2, Option.bind_some, if_pos rfl]
    exact he _ _ _ _ (up H2)
  rw [if_neg c0]
  by_cases c1 : w = 1
  · obtain ⟨r, I2, B2, e1, e2, H2⟩ := op_end H (xs (x0 + 1).toNatClampNeg)
    rw [if_pos c1, if_pos ib1]
    rw [e1, Option.bind_some, if_pos ib1, e2, Option.bind_some, if_pos rfl]
    exact he _ _ _ _ (up H2)
  rw [if_neg c1]
  by_cases c2 : w = 2
  · obtain ⟨r, I2, B2, J2, F2, e1, e2, H2⟩ := ld_ok H hb
    rw [if_pos c2]
    rw [e1, Option.bind_some, e2, Option.bind_some, if_pos rfl]
    exact he _ _ _ _ H2
  rw [if_neg c2]
  by_cases c3 : w = 3
  · obtain ⟨r, e1, e2⟩ := op_fault H (xs (x0 + 1).toNatClampNeg)
    rw [if_pos c3, if_pos ib1]
    rw [e1, Option.bind_some, if_pos ib1, e2, Option.bind_some, if_pos rfl]
    exact he _ _ _ _ (up H)
  rw [if_neg c3]
  by_cases c4 : w = 4
  · obtain ⟨r, e1, e2⟩ := op_look H (xs (x0 + 1).toNatClampNeg)
    rw [if_pos c4, if_pos ib1]
    rw [e1, Option.bind_some, if_pos ib1, e2, Option.bind_some, if_pos rfl]
    exact he _ _ _ _ (up H)
  rw [if_neg c4]
  by_cases c5 : w = 5
  · obtain ⟨r, e1, e2⟩ := op_def H (xs (x0 + 1).toNatClampNeg) (xs (x0 + 2).toNatClampNeg)
    rw [if_pos c5, if_pos ib1, if_pos ib2]
    rw [e1, Option.bind_some, if_pos ib1, if_pos ib2, e2, Option.bind_some, if_pos rfl]
    exact he _ _ _ _ (up H)
  rw [if_neg c5]
  by_cases c6 : w = 6
  · obtain ⟨r, I2, B2, e1, e2, H2⟩ := op_print H (xs (x0 + 1).toNatClampNeg) (xs (x0 + 2).toNatClampNeg)
    rw [if_pos c6, if_pos ib1, if_pos ib2]
    rw [e1, Option.bind_some, if_pos ib1, if_pos ib2, e2, Option.bind_some, if_pos rfl]
    exact he _ _ _ _ (up H2)
  rw [if_neg c6]
  by_cases c7 : w = 7
  · obtain ⟨r, e1, e2⟩ := op_same H (xs (x0 + 1).toNatClampNeg) (xs (x0 + 2).toNatClampNeg) (xs (x0 + 3).toNatClampNeg) (xs (x0 + 4).toNatClampNeg)
    rw [if_pos c7, if_pos ib1, if_pos ib2, if_pos ib3, if_pos ib4]
    rw [e1, Option.bind_some, if_pos ib1, if_pos ib2, if_pos ib3, if_pos ib4, e2, Option.bind_some, if_pos rfl]
    exact he _ _ _ _ (up H)
  rw [if_neg c7]
  by_cases c8 : w = 8
  · obtain ⟨r, e1, e2⟩ := op_out H (xs (x0 + 1).toNatClampNeg)
    rw [if_pos c8, if_pos ib1]
    rw [e1, Option.bind_some, if_pos ib1, e2, Option.bind_some, if_pos rfl]
    exact he _ _ _ _ (up H)
  rw [if_neg c8]
  by_cases c9 : w = 9
  · obtain ⟨r, I2, B2, F2, e1, e2, H2⟩ := op_begin H
    rw [if_pos c9]
    rw [e1, Option.bind_some, e2, Option.bind_some, if_pos rfl]
    exact he _ _ _ _ (up H2)
  rw [if_neg c9]
  by_cases c10 : w = 10
  · obtain ⟨r, e1, e2⟩ := op_ready H 
    rw [if_pos c10]
    rw [e1, Option.bind_some, e2, Option.bind_some, if_pos rfl]
    exact he _ _ _ _ (up H)
  rw [if_neg c10]
  by_cases c11 : w = 11
  · obtain ⟨r, e1, e2⟩ := op_which H (xs (x0 + 1).toNatClampNeg)
    rw [if_pos c11, if_pos ib1]
    rw [e1, Option.bind_some, if_pos ib1, e2, Option.bind_some, if_pos rfl]
    exact he _ _ _ _ (up H)
  rw [if_neg c11]
  by_cases c12 : w = 12
  · obtain ⟨r, I2, B2, J2, e1, e2, H2⟩ := op_step H (xs (x0 + 1).toNatClampNeg)
    rw [if_pos c12, if_pos ib1]
    rw [e1, Option.bind_some, if_pos ib1, e2, Option.bind_some, if_pos rfl]
    exact he _ _ _ _ (up H2)
  rw [if_neg c12]
  by_cases c13 : w = 13
  · obtain ⟨r, I2, B2, J2, e1, e2, H2⟩ := op_run H (xs (x0 + 1).toNatClampNeg) (xs (x0 + 2).toNatClampNeg)
    rw [if_pos c13, if_pos ib1, if_pos ib2]
    rw [e1, Option.bind_some, if_pos ib1, if_pos ib2, e2, Option.bind_some, if_pos rfl]
    exact he _ _ _ _ (up H2)
  rw [if_neg c13]
  by_cases c14 : w = 14
  · obtain ⟨r, e1, e2⟩ := op_process H (xs (x0 + 1).toNatClampNeg) (xs (x0 + 2).toNatClampNeg)
    rw [if_pos c14, if_pos ib1, if_pos ib2]
    rw [e1, Option.bind_some, if_pos ib1, if_pos ib2, e2, Option.bind_some, if_pos rfl]
    exact he _ _ _ _ (up H)
  rw [if_neg c14]
  by_cases c15 : w = 15
  · obtain ⟨r, e1, e2⟩ := op_channel H (xs (x0 + 1).toNatClampNeg) (xs (x0 + 2).toNatClampNeg)
    rw [if_pos c15, if_pos ib1, if_pos ib2]
    rw [e1, Option.bind_some, if_pos ib1, if_pos ib2, e2, Option.bind_some, if_pos rfl]
    exact he _ _ _ _ (up H)
  rw [if_neg c15]
  by_cases c16 : w = 16
  · obtain ⟨r, e1, e2⟩ := op_message H (xs (x0 + 1).toNatClampNeg) (xs (x0 + 2).toNatClampNeg) (xs (x0 + 3).toNatClampNeg)
    rw [if_pos c16, if_pos ib1, if_pos ib2, if_pos ib3]
    rw [e1, Option.bind_some, if_pos ib1, if_pos ib2, if_pos ib3, e2, Option.bind_some, if_pos rfl]
    exact he _ _ _ _ (up H)
  rw [if_neg c16]
  by_cases c17 : w = 17
  · obtain ⟨r, e1, e2⟩ := op_said H (xs (x0 + 1).toNatClampNeg) (xs (x0 + 2).toNatClampNeg)
    rw [if_pos c17, if_pos ib1, if_pos ib2]
    rw [e1, Option.bind_some, if_pos ib1, if_pos ib2, e2, Option.bind_some, if_pos rfl]
    exact he _ _ _ _ (up H)
  rw [if_neg c17]
  exact he _ _ _ _ (up H)
theorem law_all {L : Nat} (hL : L ≤ 3072) (xs : Nat → Int32) : ∀ (d c n : Nat) (I B : iT) (J : jT) (F : fT), c + d = 513 → HS (85 + 2 * c) I B J F → mLaw L xs (n + d + 1) I B J F (nI (6 * c)) = some 1 := by
  have fin : ∀ (c n : Nat) (I B : iT) (J : jT) (F : fT), L < 6 * c + 6 → c ≤ 513 → mLaw L xs (n + 1) I B J F (nI (6 * c)) = some 1 := by
    intro c n I B J F h hc
    have hlt : (nI L - 6 : Int32) < nI (6 * c) := by
      show nI L - nI 6 < nI (6 * c)
      rw [Int32.lt_iff_toInt_lt, pk_sub_toInt (by omega) (by omega), nI_toInt (by omega)]
      omega
    rw [mLaw, if_pos hlt]
  intro d
  induction d with
  | zero =>
    intro c n I B J F hc H
    exact fin c n I B J F (by omega) (by omega)
  | succ d ih =>
    intro c n I B J F hc H
    by_cases q : L < 6 * c + 6
    · exact fin c (n + (d + 1)) I B J F q (by omega)
    · show mLaw L xs (n + d + 1 + 1) I B J F (nI (6 * c)) = some 1
      exact law_step hL xs H (by omega) (by omega) (fun I B J F h => ih (c + 1) n I B J F (by omega) h)
theorem law_pure {L : Nat} (hL : L ≤ 3072) (xs : Nat → Int32) : mLaw L xs LF IA0 IA0 J00 FA0 0 = some 1 := by
  have := law_all hL xs 513 0 (LF - 514) IA0 IA0 J00 FA0 rfl hs_first
  rw [show LF - 514 + 513 + 1 = LF by unfold LF; omega] at this
  rw [← nI_0]
  exact this
