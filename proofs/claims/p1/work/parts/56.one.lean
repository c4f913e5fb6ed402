/-! ONE CALL on new objects (pure) -/
theorem mp_s {α β : Type} {x : Option α} {f : α → β} {b : β} (h : x.map f = some b) : ∃ q, x = some q ∧ f q = b := by
  cases x with
  | none => cases h
  | some q => exact ⟨q, rfl, some_in h⟩
theorem ib_1 : inb (0 + 1) 6 := by decide
theorem ib_2 : inb (0 + 2) 6 := by decide
theorem ib_3 : inb (0 + 3) 6 := by decide
theorem ib_4 : inb (0 + 4) 6 := by decide
theorem ib_5 : inb (0 + 5) 6 := by decide
set_option maxRecDepth 100000 in
set_option maxHeartbeats 4000000 in
theorem law_one {L : Nat} (hL : L ≤ 6) (xs : Nat → Int32) : mLaw L xs LF IA0 IA0 J00 FA0 0 = some 1 := by
  obtain ⟨n, hn⟩ : ∃ n, LF = n + 2 := ⟨99998, rfl⟩
  rw [hn, mLaw]
  by_cases h6 : L < 6
  · rw [if_pos (show nI L - 6 < 0 from pk_sneg (b := 6) (by omega) h6)]
  obtain rfl : L = 6 := by omega
  rw [if_neg (show ¬ (nI 6 - 6 : Int32) < 0 by decide), if_pos (show inb 0 6 by decide)]
  have he : ∀ (I B : iT) (J : jT) (F : fT), mLaw 6 xs (n + 1) I B J F (0 + 6) = some 1 := by
    intro I B J F
    rw [mLaw, if_pos (show (nI 6 - 6 : Int32) < 0 + 6 by decide)]
  generalize xs (Int32.toNatClampNeg 0) &&& 31 = c
  by_cases c0 : c = 0
  · obtain ⟨r, I2, B2, t2, e1, e2, -⟩ := feed_eq fr_tape (xs (0 + 1 : Int32).toNatClampNeg) (xs (0 + 2 : Int32).toNatClampNeg) (xs (0 + 3 : Int32).toNatClampNeg) (xs (0 + 4 : Int32).toNatClampNeg) (xs (0 + 5 : Int32).toNatClampNeg)
    rw [if_pos c0, if_pos ib_1, if_pos ib_2, if_pos ib_3, if_pos ib_4, if_pos ib_5]
    rw [e1, Option.bind_some, if_pos ib_1, if_pos ib_2, if_pos ib_3, if_pos ib_4, if_pos ib_5, e2, Option.bind_some, if_pos rfl]
    exact he _ _ _ _
  rw [if_neg c0]
  by_cases c1 : c = 1
  · obtain ⟨r, I2, B2, t2, e1, e2, -⟩ := end_eq fr_tape (xs (0 + 1 : Int32).toNatClampNeg)
    rw [if_pos c1, if_pos ib_1]
    rw [e1, Option.bind_some, if_pos ib_1, e2, Option.bind_some, if_pos rfl]
    exact he _ _ _ _
  rw [if_neg c1]
  by_cases c2 : c = 2
  · obtain ⟨q1, e1, r1⟩ := mp_s fr_load1
    obtain ⟨q2, e2, r2⟩ := mp_s fr_load2
    rw [if_pos c2]
    rw [e1, Option.bind_some, e2, Option.bind_some, if_pos (show q1.1 = q2.1 from r1.trans r2.symm)]
    exact he _ _ _ _
  rw [if_neg c2]
  by_cases c3 : c = 3
  · obtain ⟨r, e1, e2⟩ := fault_eq fr_fault (xs (0 + 1 : Int32).toNatClampNeg)
    rw [if_pos c3, if_pos ib_1]
    rw [e1, Option.bind_some, if_pos ib_1, e2, Option.bind_some, if_pos rfl]
    exact he _ _ _ _
  rw [if_neg c3]
  by_cases c4 : c = 4
  · obtain ⟨r, e1, e2⟩ := ul_look fr_unl FA0 (xs (0 + 1 : Int32).toNatClampNeg)
    rw [if_pos c4, if_pos ib_1]
    rw [e1, Option.bind_some, if_pos ib_1, e2, Option.bind_some, if_pos rfl]
    exact he _ _ _ _
  rw [if_neg c4]
  by_cases c5 : c = 5
  · obtain ⟨e1, e2⟩ := ul_def fr_unl FA0 J00 (xs (0 + 1 : Int32).toNatClampNeg) (xs (0 + 2 : Int32).toNatClampNeg)
    rw [if_pos c5, if_pos ib_1, if_pos ib_2]
    rw [e1, Option.bind_some, if_pos ib_1, if_pos ib_2, e2, Option.bind_some, if_pos rfl]
    exact he _ _ _ _
  rw [if_neg c5]
  by_cases c6 : c = 6
  · obtain ⟨e1, e2⟩ := ul_print fr_unl FA0 J00 (xs (0 + 1 : Int32).toNatClampNeg) (xs (0 + 2 : Int32).toNatClampNeg)
    rw [if_pos c6, if_pos ib_1, if_pos ib_2]
    rw [e1, Option.bind_some, if_pos ib_1, if_pos ib_2, e2, Option.bind_some, if_pos rfl]
    exact he _ _ _ _
  rw [if_neg c6]
  by_cases c7 : c = 7
  · obtain ⟨e1, e2⟩ := ul_same fr_unl FA0 J00 (xs (0 + 1 : Int32).toNatClampNeg) (xs (0 + 2 : Int32).toNatClampNeg) (xs (0 + 3 : Int32).toNatClampNeg) (xs (0 + 4 : Int32).toNatClampNeg)
    rw [if_pos c7, if_pos ib_1, if_pos ib_2, if_pos ib_3, if_pos ib_4]
    rw [e1, Option.bind_some, if_pos ib_1, if_pos ib_2, if_pos ib_3, if_pos ib_4, e2, Option.bind_some, if_pos rfl]
    exact he _ _ _ _
  rw [if_neg c7]
  by_cases c8 : c = 8
  · obtain ⟨r, e1, e2⟩ := out_eq fr_out (xs (0 + 1 : Int32).toNatClampNeg)
    rw [if_pos c8, if_pos ib_1]
    rw [e1, Option.bind_some, if_pos ib_1, e2, Option.bind_some, if_pos rfl]
    exact he _ _ _ _
  rw [if_neg c8]
  by_cases c9 : c = 9
  · obtain ⟨e1, e2⟩ := ul_begin fr_unl FA0 J00
    rw [if_pos c9]
    rw [e1, Option.bind_some, e2, Option.bind_some, if_pos rfl]
    exact he _ _ _ _
  rw [if_neg c9]
  by_cases c10 : c = 10
  · obtain ⟨e1, e2⟩ := ul_ready fr_unl
    rw [if_pos c10]
    rw [e1, Option.bind_some, e2, Option.bind_some, if_pos rfl]
    exact he _ _ _ _
  rw [if_neg c10]
  by_cases c11 : c = 11
  · obtain ⟨e1, e2⟩ := ul_which fr_unl (xs (0 + 1 : Int32).toNatClampNeg)
    rw [if_pos c11, if_pos ib_1]
    rw [e1, Option.bind_some, if_pos ib_1, e2, Option.bind_some, if_pos rfl]
    exact he _ _ _ _
  rw [if_neg c11]
  by_cases c12 : c = 12
  · obtain ⟨e1, e2⟩ := ul_step fr_unl FA0 J00 (xs (0 + 1 : Int32).toNatClampNeg)
    rw [if_pos c12, if_pos ib_1]
    rw [e1, Option.bind_some, if_pos ib_1, e2, Option.bind_some, if_pos rfl]
    exact he _ _ _ _
  rw [if_neg c12]
  by_cases c13 : c = 13
  · obtain ⟨r, e1, e2⟩ := ul_run fr_unl FA0 J00 (xs (0 + 1 : Int32).toNatClampNeg) (xs (0 + 2 : Int32).toNatClampNeg)
    rw [if_pos c13, if_pos ib_1, if_pos ib_2]
    rw [e1, Option.bind_some, if_pos ib_1, if_pos ib_2, e2, Option.bind_some, if_pos rfl]
    exact he _ _ _ _
  rw [if_neg c13]
  by_cases c14 : c = 14
  · obtain ⟨e1, e2⟩ := ul_process fr_unl FA0 (xs (0 + 1 : Int32).toNatClampNeg) (xs (0 + 2 : Int32).toNatClampNeg)
    rw [if_pos c14, if_pos ib_1, if_pos ib_2]
    rw [e1, Option.bind_some, if_pos ib_1, if_pos ib_2, e2, Option.bind_some, if_pos rfl]
    exact he _ _ _ _
  rw [if_neg c14]
  by_cases c15 : c = 15
  · obtain ⟨e1, e2⟩ := ul_channel fr_unl (xs (0 + 1 : Int32).toNatClampNeg) (xs (0 + 2 : Int32).toNatClampNeg)
    rw [if_pos c15, if_pos ib_1, if_pos ib_2]
    rw [e1, Option.bind_some, if_pos ib_1, if_pos ib_2, e2, Option.bind_some, if_pos rfl]
    exact he _ _ _ _
  rw [if_neg c15]
  by_cases c16 : c = 16
  · obtain ⟨e1, e2⟩ := ul_message fr_unl J00 (xs (0 + 1 : Int32).toNatClampNeg) (xs (0 + 2 : Int32).toNatClampNeg) (xs (0 + 3 : Int32).toNatClampNeg)
    rw [if_pos c16, if_pos ib_1, if_pos ib_2, if_pos ib_3]
    rw [e1, Option.bind_some, if_pos ib_1, if_pos ib_2, if_pos ib_3, e2, Option.bind_some, if_pos rfl]
    exact he _ _ _ _
  rw [if_neg c16]
  by_cases c17 : c = 17
  · obtain ⟨e1, e2⟩ := ul_said fr_unl (xs (0 + 1 : Int32).toNatClampNeg) (xs (0 + 2 : Int32).toNatClampNeg)
    rw [if_pos c17, if_pos ib_1, if_pos ib_2]
    rw [e1, Option.bind_some, if_pos ib_1, if_pos ib_2, e2, Option.bind_some, if_pos rfl]
    exact he _ _ _ _
  rw [if_neg c17]
  exact he _ _ _ _
