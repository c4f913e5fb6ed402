/-! process in a run (pure) -/
section
variable {sp : Int32} {k h md : Nat} {D : List Df} {L : lT} {B0 : iT} {J0 : jT} {F : fT} {I B : iT} {J : jT} {np nm dn sd : Nat} {R : lT} {z : Nat → Prop}
theorem over_w (H : RUN sp k h md D L B0 J0 F I B J np nm dn sd R z) {x : Nat} (hx : x < np) (hov : gI (R 168) x = 1) : mX6_isWaiting I F (nI x) = some 0 ∧ mX12_waits B (nI x) = some 0 := by
  have h80 := run_80 H
  obtain ⟨hK, hN, hPC⟩ := run_RK H
  have hF := H.2.2.1
  have hk := hK.1
  have h9 : ∀ q5 q6, mX6_isWaiting_49 I F (nI x) q5 q6 = some 0 := fun q5 q6 => by
    unfold mX6_isWaiting_49 mX6_isWaiting_54
    rw [if_neg (by decide), rn_g hN (by unfold rnA; omega) (by omega), sb, hov, if_neg (by decide)]
  refine ⟨?_, ?_⟩
  · unfold mX6_isWaiting
    rw [rn_g hN (by unfold rnA; omega) (by omega), sb, hF, rk_at hK (by unfold rkA; omega), sb, h9]
    unfold mX6_isWaiting_54
    rw [if_pos rfl, ite_self, ite_self, ite_self, ite_self]
  · have g219 : B 219 (nI x).toNatClampNeg = 1 := by rw [congrArg (B 219) (cl80 (show x < 80 by omega)), (hPC.2 x hx).2.1]; exact hov
    unfold mX12_waits
    rw [if_pos (in80 (by omega)), if_pos (in80 (by omega)), g219, if_neg (by decide)]
theorem proc_ok (H : RUN sp k h md D L B0 J0 F I B J np nm dn sd R z) (x1 x2 : Int32) : ∃ r, mX11_process I F x1 x2 = some r ∧ mX12_process B x1 x2 = some r := by
  have h80 := run_80 H
  obtain ⟨hK, hN, hPC⟩ := run_RK H
  have h33 : B 186 33 = 1 := H.2.1.2.2.2.1
  have h60 : B 186 60 = nI np := H.2.2.2.2.2.2.1.1
  have hmd := made_ok H
  rcases isn_ok (n := np) (by omega) x1 with ⟨hx, e⟩ | ⟨x, hx, rfl, ⟨c, e⟩ | ⟨c, e⟩⟩
  · refine ⟨-1, ?_, ?_⟩
    · unfold mX11_process
      rw [if_pos hx]
    · unfold mX12_process
      rw [h33, if_neg (by decide), h60, e, sb, if_pos rfl]
  · obtain ⟨g1, g2, g3, g4, g5, g6, g7, g8, g9⟩ := hPC.2 x c
    have i80 := in80 (show x < 80 by omega)
    have c80 := cl80 (show x < 80 by omega)
    have at_ : ∀ a, rnA a → mX4_at a I (nI x) = some (gI (R a) x) := fun a ha => rn_g hN ha hx
    have hw : ∃ w, mX6_isWaiting I F (nI x) = some w ∧ mX12_waits B (nI x) = some w ∧ (w = 0 ∨ w = 1) := by
      rcases g1 with o | o
      · exact run_wait H c o
      · obtain ⟨w1, w2⟩ := over_w H c o
        exact ⟨0, w1, w2, Or.inl rfl⟩
    obtain ⟨w, w1, w2, w3⟩ := hw
    have hgv : ∃ v, mX6_givenBy I (nI x) = some v ∧ (if gI (R 168) x = 0 then (mX12_real B (nI x)).bind fun q3 => some q3 else some (-1)) = some v := by
      obtain ⟨s1, s2, s3, s4, s5, s6, s7, s8, Γ, ch, rl, dp, ow, Gt, Ht, q, mr, rk, t1, t2, t3, t4, t5, t6⟩ := H
      unfold mX6_givenBy
      rw [at_ 168 (by unfold rnA; omega), sb]
      rcases g1 with o | o
      · have e1 : mX6_slotOf I (nI x) 0 = some (nI x) := by
          have := slo_ok hN (p := x) (i := 0) (by omega) (by omega)
          rw [Nat.add_zero, g9] at this
          exact this
        rw [if_pos o, if_pos o, e1, sb, fo_ok hN t2 c, sb, rl_ok t2 c, sb]
        exact ⟨_, rfl, rfl⟩
      · rw [if_neg (by rw [o]; decide), if_neg (by rw [o]; decide)]
        exact ⟨_, rfl, rfl⟩
    obtain ⟨v, v1, v2⟩ := hgv
    have cA : mX11_process I F (nI x) x2 = some (if x2 = 0 then gI (R 164) x else if x2 = 1 then gI (R 168) x else if x2 = 2 then w else if x2 = 3 then gI (R 170) x else if x2 = 4 then v else if x2 = 5 then gI (R 172) x else if x2 = 6 then gI (R 174) x else -1) := by
      unfold mX11_process
      rw [if_neg (nI_not0 hx), hmd, sb, if_pos (nI_lt c (by omega)), at_ 164 (by unfold rnA; omega), at_ 168 (by unfold rnA; omega), at_ 170 (by unfold rnA; omega), at_ 172 (by unfold rnA; omega), at_ 174 (by unfold rnA; omega), w1, v1, sb, sb, sb, sb, sb, sb, sb]
      rcases w3 with rfl | rfl <;> (repeat' split) <;> first | rfl | (exact absurd rfl ‹_›) | simp_all
    refine ⟨_, cA, ?_⟩
    have e1 : (if gI (R 168) x = 0 then some (0 : Int32) else some 1) = some (gI (R 168) x) := by
      rcases g1 with o | o <;> rw [o] <;> rfl
    have e5 : (if gI (R 168) x = 0 then some (B 217 x) else some (0 : Int32)) = some (gI (R 172) x) := by
      rcases g1 with o | o
      · rw [if_pos o, g7 o]
      · rw [if_neg (by rw [o]; decide), g8 o]
    have ew : (if w = 0 then some (0 : Int32) else some 1) = some w := by rcases w3 with rfl | rfl <;> rfl
    unfold mX12_process
    rw [h33, if_neg (by decide), h60, e, sb, if_neg (by decide)]
    simp only [if_pos i80, c80, g2, g3, g4, g5, g6, w2, sb, e1, e5, ew, v2]
    repeat' split
    all_goals rfl
  · refine ⟨-1, ?_, ?_⟩
    · unfold mX11_process
      rw [if_neg (nI_not0 hx), hmd, sb, if_neg (Int32.not_lt.mpr (nI_le c hx))]
    · unfold mX12_process
      rw [h33, if_neg (by decide), h60, e, sb, if_pos rfl]
end
