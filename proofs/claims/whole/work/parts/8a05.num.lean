/-! NUMBERS OF A PROCESS, in both; Es that nobody asks for (pure) -/
section
variable {k p n : Nat} {L R : lT} {N : Nat → Prop} {s : Nat → Int32} {I B B0 : iT} {F : fT} {Q : Nat → Prop}
theorem rn_27 (h : RN I R) {I' : iT} (hk : k = 12 ∨ k = 73) (hf : fr1 (k + 27) I I') : RN I' R := rn_keep h (fun a _ _ => hf a (by omega) (by omega))
theorem no_ok (hk : k = 12 ∨ k = 73) (hp : p < 80) (hn : n ≤ 4) (hL : (L (k + 19)).length ≤ 1000) {d e r f : Nat} (h : ER k n N L B0 Q d e r f 28) : ∃ v, (∀ (I : iT) (R : lT) (F : fT), RK I k L → RN I R → F 148 12 = k → (∀ j, N j → gI (R 176) (p * 85 + j) = s j) → ∃ I', mX6_numberOf I F (nI p) (nI r) = some (v, I') ∧ RK I' k L ∧ RN I' R ∧ fr1 (k + 27) I I') ∧ (∀ B, VA p n B0 N s B → B 186 76 = nI 0 → ∃ B', mX12_worth SF B (nI p) (nI e) = some (v, B') ∧ VA p n B0 N s B' ∧ WF 0 B B') := by
  obtain ⟨v, hC, hR⟩ := ev_ok (s := s) hk hp hn hL _ _ _ _ _ h
  have hu := er_u h
  refine ⟨v, fun I R F hK hN hF hs => ?_, fun B hV hc => ?_⟩
  · obtain ⟨k1, k2, V, k3, k4⟩ := hK
    have hCA : CA k p L N s I V := ⟨k2, ⟨k3, k4⟩, R 176, hN 176 (by unfold rnA; omega), hs⟩
    obtain ⟨I', V', a1, a2, a3, a4, a5⟩ := hC I V (LF - (r + 1 - f)) r hCA (Nat.le_refl _) (by omega)
    have e1 : LF - (r + 1 - f) + (r + 1 - f) = LF := by unfold LF; omega
    rw [e1] at a1
    have e25 : mX4_at (k + 18 + 7) I (nI r) = some (nI f) := by
      rw [← hu.2.2.2.2]
      exact row_g (k2 (k + 25) (by unfold rkA; omega)) (by omega)
    have e85 : nI p * 85 = nI (p * 85) := pk_mul p 85
    obtain ⟨y, hy⟩ : ∃ y, LF - (r + 1 - f) = y + 1 := ⟨LF - (r + 1 - f) - 1, by unfold LF; omega⟩
    have e27 : mX4_at (k + 18 + 9) I' (nI r) = some v := by
      rw [← a3]
      exact row_g a2.2.1.1 (by omega)
    refine ⟨I', ?_, ⟨k1, a2.1, V', a2.2.1.1, a2.2.1.2⟩, rn_27 hN hk a5, a5⟩
    unfold mX6_numberOf mX8_evaluate
    rw [hF, e25, sb, e85, a1, hy, mX8_evaluate_10, if_pos (show nI r < nI (r + 1) from nI_lt (by omega) (by omega)), e27, sb, sb]
  · exact re_worth hR (nf := 449) hV hc (by omega) (by omega)
/-- the class works out what nobody asks for -/
theorem vo_tot (hk : k = 12 ∨ k = 73) (hK : RK I k L) (hN : RN I R) (x y : Int32) : ∃ v, mX8_valueOf (k + 18) 176 I x y = some v := by
  obtain ⟨k1, k2, V, k3, k4⟩ := hK
  have a19 : mX4_at (k + 18 + 1) I x = some (lat (L (k + 19)) x) := row_at (k2 (k + 19) (by unfold rkA; omega)) x
  have a21 : mX4_at (k + 18 + 3) I x = some (lat (L (k + 21)) x) := row_at (k2 (k + 21) (by unfold rkA; omega)) x
  have a23 : mX4_at (k + 18 + 5) I x = some (lat (L (k + 23)) x) := row_at (k2 (k + 23) (by unfold rkA; omega)) x
  have a27 : ∀ z, mX4_at (k + 18 + 9) I z = some (lat V z) := fun z => row_at k3 z
  unfold mX8_valueOf
  rw [a21, sb, a27, sb, a23, sb, a27, sb, a19, sb]
  refine ex_if ⟨_, rfl⟩ (ex_if ⟨_, rfl⟩ (ex_if ⟨_, rfl⟩ (ex_if (ex_if ⟨_, rfl⟩ ⟨_, rfl⟩) (ex_if ?_ (ex_if ⟨_, rfl⟩ (ex_if ⟨_, rfl⟩ (ex_if ⟨_, rfl⟩ ⟨_, rfl⟩)))))))
  rw [rn_at hN (by unfold rnA; omega), sb]
  exact ⟨_, rfl⟩
theorem ev_one (hk : k = 12 ∨ k = 73) (hK : RK I k L) (hN : RN I R) {x1 x4 : Int32} (h : ¬ x1 < x4) (y : Int32) (m : Nat) : ∃ I', mX8_evaluate_10 (k + 18) 176 (m + 1) I x1 y x4 = mX8_evaluate_10 (k + 18) 176 m I' x1 y (x4 + 1) ∧ RK I' k L ∧ RN I' R ∧ fr1 (k + 27) I I' := by
  obtain ⟨v, hv⟩ := vo_tot hk hK hN x4 y
  have hK0 := hK
  obtain ⟨k1, k2, V, k3, k4⟩ := hK
  obtain ⟨I', e, u⟩ := row_put k3 x4 v
  have hl : (lput V x4 v).length = V.length := by
    unfold lput
    by_cases q : x4 < 0
    · rw [if_pos q]
    · rw [if_neg q, List.length_set]
  have hf : fr1 (k + 27) I I' := u.2
  refine ⟨I', ?_, rk_27 hK0 (fun a _ _ w1 w2 => u.2 a w1 (by omega)) u.1 (by rw [hl]; exact k4), rn_27 hN hk hf, hf⟩
  rw [mX8_evaluate_10, if_neg h, hv, sb]
  show ((mX4_put (k + 27) I x4 v).bind _) = _
  rw [e, sb]
theorem ev_end (hK : RK I k L) {x1 x4 : Int32} (h : x1 < x4) (y : Int32) (m : Nat) : ∃ v, mX8_evaluate_10 (k + 18) 176 (m + 1) I x1 y x4 = some (v, I) := by
  obtain ⟨k1, k2, V, k3, k4⟩ := hK
  have a27 : mX4_at (k + 18 + 9) I x1 = some (lat V x1) := row_at k3 x1
  exact ⟨_, by rw [mX8_evaluate_10, if_pos h, a27, sb]⟩
theorem ev_loop (hk : k = 12 ∨ k = 73) (r : Nat) (hr : r ≤ 1000) (y : Int32) : ∀ (c j m : Nat) (I : iT), j + c = r + 1 → RK I k L → RN I R → ∃ v I', mX8_evaluate_10 (k + 18) 176 (m + c + 1) I (nI r) y (nI j) = some (v, I') ∧ RK I' k L ∧ RN I' R ∧ fr1 (k + 27) I I' := by
  intro c
  induction c with
  | zero =>
    intro j m I hj hK hN
    obtain ⟨v, hv⟩ := ev_end hK (show nI r < nI j from nI_lt (by omega) (by omega)) y m
    exact ⟨v, I, hv, hK, hN, fun _ _ _ => rfl⟩
  | succ c ih =>
    intro j m I hj hK hN
    obtain ⟨I1, a1, a2, a3, a4⟩ := ev_one hk hK hN (show ¬ nI r < nI j from nI_nlt (by omega) (by omega)) y (m + c + 1)
    obtain ⟨v, I2, b1, b2, b3, b4⟩ := ih (j + 1) m I1 (by omega) a2 a3
    refine ⟨v, I2, ?_, b2, b3, fun q w1 w2 => by rw [b4 q w1 w2, a4 q w1 w2]⟩
    show mX8_evaluate_10 (k + 18) 176 (m + c + 1 + 1) I (nI r) y (nI j) = _
    rw [a1, nI_1]
    exact b1
theorem lat_EB {l : List Int32} (h : ∀ i, EB (gI l i)) (x : Int32) : EB (lat l x) := by
  unfold lat
  by_cases q : x < 0
  · rw [if_pos q]
    exact Or.inl rfl
  · rw [if_neg q]
    exact h _
theorem m1_1 : (-1 : Int32) + 1 = nI 0 := by decide +kernel
theorem m1_n (r : Nat) (h : r < 2 ^ 31) : ¬ nI r < -1 := fun q => by
  have h1 : (-1 : Int32) < nI r ∨ True := Or.inr trivial
  have h2 := m1_le h
  exact absurd q (Int32.not_lt.mpr h2)
theorem nu_tot (hk : k = 12 ∨ k = 73) (hK : RK I k L) (hN : RN I R) (hE : ∀ i, EB (gI (L (k + 25)) i)) (hF : F 148 12 = k) {x : Int32} (hx : EB x) (y : Int32) : ∃ v I', mX6_numberOf I F y x = some (v, I') ∧ RK I' k L ∧ RN I' R ∧ fr1 (k + 27) I I' := by
  have e25 : mX4_at (k + 18 + 7) I x = some (lat (L (k + 25)) x) := row_at (hK.2.1 (k + 25) (by unfold rkA; omega)) x
  have fin : ∀ x4, EB x4 → ∃ v I', mX8_evaluate_10 (k + 18) 176 LF I x (y * 85) x4 = some (v, I') ∧ RK I' k L ∧ RN I' R ∧ fr1 (k + 27) I I' := by
    intro x4 h4
    have hlf : LF = 99999 + 1 := rfl
    rcases hx with rfl | ⟨r, hr, rfl⟩
    · rcases h4 with rfl | ⟨j, hj, rfl⟩
      · obtain ⟨I1, a1, a2, a3, a4⟩ := ev_one hk hK hN (show ¬ (-1 : Int32) < -1 from by decide) (y * 85) 99999
        obtain ⟨v, hv⟩ := ev_end a2 (show (-1 : Int32) < nI 0 by decide +kernel) (y * 85) 99998
        exact ⟨v, I1, by rw [hlf, a1, m1_1]; exact hv, a2, a3, a4⟩
      · have hlt : (-1 : Int32) < nI j := by
          rcases Nat.eq_zero_or_pos j with q | q
          · subst q; decide +kernel
          · exact Int32.lt_of_lt_of_le (show (-1 : Int32) < nI 0 by decide +kernel) (nI_le (Nat.zero_le _) (by omega))
        obtain ⟨v, hv⟩ := ev_end hK hlt (y * 85) 99999
        exact ⟨v, I, hv, hK, hN, fun _ _ _ => rfl⟩
    · rcases h4 with rfl | ⟨j, hj, rfl⟩
      · obtain ⟨I1, a1, a2, a3, a4⟩ := ev_one hk hK hN (m1_n r (by omega)) (y * 85) 99999
        obtain ⟨v, I2, b1, b2, b3, b4⟩ := ev_loop hk r hr (y * 85) (r + 1) 0 (99999 - (r + 2)) I1 (by omega) a2 a3
        refine ⟨v, I2, ?_, b2, b3, fun q w1 w2 => by rw [b4 q w1 w2, a4 q w1 w2]⟩
        rw [hlf, a1, m1_1]
        rw [show 99999 - (r + 2) + (r + 1) + 1 = 99999 by omega] at b1
        exact b1
      · rcases Nat.lt_or_ge r j with q | q
        · obtain ⟨v, hv⟩ := ev_end hK (show nI r < nI j from nI_lt q (by omega)) (y * 85) 99999
          exact ⟨v, I, hv, hK, hN, fun _ _ _ => rfl⟩
        · obtain ⟨v, I2, b1, b2, b3, b4⟩ := ev_loop hk r hr (y * 85) (r + 1 - j) j (99999 - (r + 1 - j)) I (by omega) hK hN
          refine ⟨v, I2, ?_, b2, b3, b4⟩
          rw [show 99999 - (r + 1 - j) + (r + 1 - j) + 1 = 99999 + 1 by omega] at b1
          exact b1
  obtain ⟨v, I', a1, a2, a3, a4⟩ := fin _ (lat_EB hE x)
  refine ⟨v, I', ?_, a2, a3, a4⟩
  unfold mX6_numberOf mX8_evaluate
  rw [hF, e25, sb, a1, sb]
end
