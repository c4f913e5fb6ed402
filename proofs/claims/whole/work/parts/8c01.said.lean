/-! ANSWERS in a run (pure) -/
theorem isn_ok {n : Nat} (hn : n < 2 ^ 31) (x : Int32) : (x < 0 ∧ mX12_isIn x 0 (nI n - 1) = some 0) ∨ ∃ j, j < 2 ^ 31 ∧ x = nI j ∧ ((j < n ∧ mX12_isIn x 0 (nI n - 1) = some 1) ∨ (n ≤ j ∧ mX12_isIn x 0 (nI n - 1) = some 0)) := by
  unfold mX12_isIn
  rcases i32_cases x with hx | ⟨j, hj, rfl⟩
  · exact Or.inl ⟨hx, if_pos hx⟩
  · refine Or.inr ⟨j, hj, rfl, ?_⟩
    rw [if_neg (nI_not0 hj)]
    by_cases c : j < n
    · left
      rw [nI_sub1 (by omega), if_neg (Int32.not_lt.mpr (nI_le (by omega) (by omega)))]
      exact ⟨c, rfl⟩
    · right
      have e1 : nI n - 1 < nI j := by
        by_cases c0 : n = 0
        · rw [c0]
          have : nI 0 - 1 = (-1 : Int32) := by decide
          rw [this]
          exact m1_lt hj
        · rw [nI_sub1 (by omega)]
          exact nI_lt (by omega) hj
      rw [if_pos e1]
      exact ⟨by omega, rfl⟩
section
variable {sp : Int32} {k h md : Nat} {D : List Df} {L : lT} {B0 : iT} {J0 : jT} {F : fT} {I B : iT} {J : jT} {np nm dn sd : Nat} {R : lT} {z : Nat → Prop}
theorem said_ok (H : RUN sp k h md D L B0 J0 F I B J np nm dn sd R z) (x1 x2 : Int32) : ∃ r, mX11_said I x1 x2 = some r ∧ mX12_said B x1 x2 = some r := by
  have h33 : B 186 33 = 1 := H.2.1.2.2.2.1
  obtain ⟨hK, hN, hPC⟩ := run_RK H
  have s7 := H.2.2.2.2.2.2.1
  have s8 := H.2.2.2.2.2.2.2.1
  have h63 : B 186 63 = nI sd := s7.2.2.2.2.2.2.2.2.1
  have hsd : sd ≤ 600 := by have := s7.2.2.2.2.2.2.2.2.2.1; have := s7.2.2.2.2.1; omega
  obtain ⟨y1, y2, y3⟩ := s8
  have hr : mX12_said B x1 x2 = (mX12_isIn x1 0 (nI (min sd 200) - 1)).bind fun q1 => if q1 = 0 then some ((-1)) else if x2 = 0 then if inb x1 200 then some (B 227 x1.toNatClampNeg) else none else if x2 = 1 then if inb x1 200 then some (B 228 x1.toNatClampNeg) else none else some ((-1)) := by
    unfold mX12_said mX12_said_29
    rw [h33, if_neg (by decide), h63]
    by_cases c : 200 ≤ sd
    · rw [if_pos (show (200 : Int32) ≤ nI sd from nI_le (a := 200) c (by omega)), show min sd 200 = 200 by omega]
      rfl
    · rw [if_neg (show ¬ (200 : Int32) ≤ nI sd from nI_ge (b := 200) (by omega) (by omega)), show min sd 200 = sd by omega]
  have h182 : mX4_at 182 I x1 = some (lat (R 182) x1) := rn_at hN (by unfold rnA; omega) x1
  have h184 : mX4_at 184 I x1 = some (lat (R 184) x1) := rn_at hN (by unfold rnA; omega) x1
  have hc : mX11_said I x1 x2 = some (if x2 = 0 then lat (R 182) x1 else if x2 = 1 then lat (R 184) x1 else -1) := by
    unfold mX11_said
    rw [h182, h184, sb, sb]
    split
    · rfl
    · split <;> rfl
  refine ⟨_, hc, ?_⟩
  rw [hr]
  rcases isn_ok (n := min sd 200) (by omega) x1 with ⟨hx, e⟩ | ⟨j, hj, rfl, ⟨c, e⟩ | ⟨c, e⟩⟩
  · rw [e, sb, if_pos rfl, lat_neg hx, lat_neg hx, ite_self, ite_self]
  · obtain ⟨g1, g2⟩ := y3 j c
    have i2 : inb (nI j) 200 := vp_in_nI (by omega) (by omega)
    rw [e, sb, if_neg (by decide), lat_g hj, lat_g hj, if_pos i2, if_pos i2, nI_clamp hj, g1, g2]
    split
    · rfl
    · split <;> rfl
  · rw [e, sb, if_pos rfl, lat_g hj, lat_g hj, gI_out (by omega), gI_out (by omega), ite_self, ite_self]
end
