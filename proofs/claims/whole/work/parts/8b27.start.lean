/-! a run starts (pure) -/
section
variable {k h md : Nat} {D : List Df} {L : lT} {F : fT} {I B : iT} {J : jT} {R : lT}
theorem clr_ok (hN : RN I R) : ∃ I' R', (∀ K : iT → Option (iT × fT), ((mX1_clear I).bind fun q2 => (mX4_clear 164 q2).bind fun q3 => (mX4_clear 166 q3).bind fun q4 => (mX4_clear 168 q4).bind fun q5 => (mX4_clear 170 q5).bind fun q6 => (mX4_clear 172 q6).bind fun q7 => (mX4_clear 174 q7).bind fun q8 => (mX4_clear 178 q8).bind fun q9 => (mX4_clear 182 q9).bind fun q10 => (mX4_clear 184 q10).bind K) = K I') ∧ RN I' R' ∧ (∀ a, a = 150 ∨ a = 152 ∨ a = 154 ∨ a = 156 ∨ a = 158 ∨ a = 160 ∨ a = 162 ∨ a = 164 ∨ a = 166 ∨ a = 168 ∨ a = 170 ∨ a = 172 ∨ a = 174 ∨ a = 178 ∨ a = 182 ∨ a = 184 → R' a = []) ∧ R' 176 = R 176 ∧ (∀ q, ¬ (150 ≤ q ∧ q ≤ 185) → I' q = I q) := by
  obtain ⟨I1, a1, a2, a3⟩ := rn_clear hN (a := 150) (by unfold rnA; omega)
  obtain ⟨I2, b1, b2, b3⟩ := rn_clear a2 (a := 152) (by unfold rnA; omega)
  obtain ⟨I3, c1, c2, c3⟩ := rn_clear b2 (a := 154) (by unfold rnA; omega)
  obtain ⟨I4, d1, d2, d3⟩ := rn_clear c2 (a := 156) (by unfold rnA; omega)
  obtain ⟨I5, e1, e2, e3⟩ := rn_clear d2 (a := 158) (by unfold rnA; omega)
  obtain ⟨I6, f1, f2, f3⟩ := rn_clear e2 (a := 160) (by unfold rnA; omega)
  obtain ⟨I7, g1, g2, g3⟩ := rn_clear f2 (a := 162) (by unfold rnA; omega)
  obtain ⟨I8, h1, h2, h3⟩ := rn_clear g2 (a := 164) (by unfold rnA; omega)
  obtain ⟨I9, i1, i2, i3⟩ := rn_clear h2 (a := 166) (by unfold rnA; omega)
  obtain ⟨I10, j1, j2, j3⟩ := rn_clear i2 (a := 168) (by unfold rnA; omega)
  obtain ⟨I11, k1, k2, k3⟩ := rn_clear j2 (a := 170) (by unfold rnA; omega)
  obtain ⟨I12, l1, l2, l3⟩ := rn_clear k2 (a := 172) (by unfold rnA; omega)
  obtain ⟨I13, m1, m2, m3⟩ := rn_clear l2 (a := 174) (by unfold rnA; omega)
  obtain ⟨I14, n1, n2, n3⟩ := rn_clear m2 (a := 178) (by unfold rnA; omega)
  obtain ⟨I15, o1, o2, o3⟩ := rn_clear n2 (a := 182) (by unfold rnA; omega)
  obtain ⟨I16, p1, p2, p3⟩ := rn_clear o2 (a := 184) (by unfold rnA; omega)
  refine ⟨I16, _, fun K => ?_, p2, fun a ha => ?_, rfl, fun q hq => ?_⟩
  · unfold mX1_clear
    rw [a1, sb, b1, sb, c1, sb, d1, sb, e1, sb, f1, sb, g1, sb, sb, h1, sb, i1, sb, j1, sb, k1, sb, l1, sb, m1, sb, n1, sb, o1, sb, p1, sb]
  · rcases ha with rfl | rfl | rfl | rfl | rfl | rfl | rfl | rfl | rfl | rfl | rfl | rfl | rfl | rfl | rfl | rfl <;> rfl
  · rw [p3 q (by omega) (by omega), o3 q (by omega) (by omega), n3 q (by omega) (by omega), m3 q (by omega) (by omega), l3 q (by omega) (by omega), k3 q (by omega) (by omega), j3 q (by omega) (by omega), i3 q (by omega) (by omega), h3 q (by omega) (by omega), g3 q (by omega) (by omega), f3 q (by omega) (by omega), e3 q (by omega) (by omega), d3 q (by omega) (by omega), c3 q (by omega) (by omega), b3 q (by omega) (by omega), a3 q (by omega) (by omega)]
/-- the reference's beginning, before ifs -/
theorem bgn_ok {fd : Nat} (hh : h < 2) (hfd : fd < 12) (h31 : B 186 31 = nI h) (h205 : B 205 h = nI (fd + 1)) : ∃ B', (∀ J, mX12_begins B J = mX12_settles B' J (nI 0)) ∧ B' 186 60 = nI 1 ∧ B' 186 61 = nI 1 ∧ B' 186 62 = nI 0 ∧ B' 186 63 = nI 0 ∧ B' 186 64 = nI 0 ∧ B' 186 65 = 0 ∧ B' 219 0 = 0 ∧ B' 215 0 = 0 ∧ B' 216 0 = 0 ∧ B' 217 0 = 0 ∧ B' 214 0 = nI 0 ∧ B' 218 0 = nI 0 ∧ B' 220 0 = nI 0 ∧ (∀ s, s < 2 → B' 221 s = -1 ∧ B' 222 s = -1) ∧ B' 212 0 = nI fd ∧ B' 213 0 = B 201 (12 * h + fd) ∧ (∀ q i, ¬ (q = 186 ∧ 60 ≤ i ∧ i ≤ 65) → ¬ (212 ≤ q ∧ q ≤ 222) → B' q i = B q i) := by
  obtain ⟨B1, hB1⟩ : ∃ X, X = a_u2 (a_u2 (a_u2 (a_u2 (a_u2 (a_u2 B 186 60 1) 186 61 0) 186 62 0) 186 63 0) 186 64 0) 186 65 0 := ⟨_, rfl⟩
  have f1 : ∀ q i, ¬ (q = 186 ∧ 60 ≤ i ∧ i ≤ 65) → B1 q i = B q i := fun q i w => by rw [hB1, a_u2_n _ _ (by omega), a_u2_n _ _ (by omega), a_u2_n _ _ (by omega), a_u2_n _ _ (by omega), a_u2_n _ _ (by omega), a_u2_n _ _ (by omega)]
  have v60 : B1 186 60 = nI 1 := by rw [hB1, a_u2_n _ _ (by omega), a_u2_n _ _ (by omega), a_u2_n _ _ (by omega), a_u2_n _ _ (by omega), a_u2_n _ _ (by omega), a_u2_s]; rfl
  have v61 : B1 186 61 = nI 0 := by rw [hB1, a_u2_n _ _ (by omega), a_u2_n _ _ (by omega), a_u2_n _ _ (by omega), a_u2_n _ _ (by omega), a_u2_s]; rfl
  have v62 : B1 186 62 = nI 0 := by rw [hB1, a_u2_n _ _ (by omega), a_u2_n _ _ (by omega), a_u2_n _ _ (by omega), a_u2_s]; rfl
  have v63 : B1 186 63 = nI 0 := by rw [hB1, a_u2_n _ _ (by omega), a_u2_n _ _ (by omega), a_u2_s]; rfl
  have v64 : B1 186 64 = nI 0 := by rw [hB1, a_u2_n _ _ (by omega), a_u2_s]; rfl
  have v65 : B1 186 65 = 0 := by rw [hB1, a_u2_s]
  obtain ⟨Bc, c1, c2, c3, c4, c5⟩ := nch_ok (B := B1) (x := 0) (by omega) v61
  obtain ⟨Bd, hBd⟩ : ∃ X, X = a_u2 (a_u2 Bc 214 0 (nI 0)) 218 0 (nI 0) := ⟨_, rfl⟩
  have fd1 : ∀ q i, ¬ (q = 214 ∧ i = 0) → ¬ (q = 218 ∧ i = 0) → Bd q i = Bc q i := fun q i w1 w2 => by rw [hBd, a_u2_n _ _ w2, a_u2_n _ _ w1]
  obtain ⟨Be, hBe⟩ : ∃ X, X = a_u2 (a_u2 (a_u2 (a_u2 Bd 219 0 0) 215 0 0) 216 0 0) 217 0 0 := ⟨_, rfl⟩
  have fe1 : ∀ q i, ¬ ((q = 219 ∨ q = 215 ∨ q = 216 ∨ q = 217) ∧ i = 0) → Be q i = Bd q i := fun q i w => by rw [hBe, a_u2_n _ _ (by omega), a_u2_n _ _ (by omega), a_u2_n _ _ (by omega), a_u2_n _ _ (by omega)]
  have ge : ∀ q i, ¬ (q = 186 ∧ 60 ≤ i ∧ i ≤ 65) → ¬ (212 ≤ q ∧ q ≤ 222) → Be q i = B q i := fun q i w1 w2 => by rw [fe1 _ _ (by omega), fd1 _ _ (by omega) (by omega), c5 _ _ (by omega) (by omega) (by omega), f1 _ _ w1]
  have g31 : Be 186 31 = nI h := by rw [ge _ _ (by omega) (by omega)]; exact h31
  have hen := en_ok (B := Be) (p := 0) (fd := fd) (by omega) hh g31 hfd
  obtain ⟨B', hB'⟩ : ∃ X, X = a_u2 (a_u2 Be 212 0 (nI fd)) 213 0 (Be 201 (12 * h + fd)) := ⟨_, rfl⟩
  rw [← hB'] at hen
  have fp : ∀ q i, ¬ ((q = 212 ∨ q = 213) ∧ i = 0) → B' q i = Be q i := fun q i w => by rw [hB', a_u2_n _ _ (by omega), a_u2_n _ _ (by omega)]
  have p6 : ∀ i, i ≠ 61 → B' 186 i = B1 186 i := fun i hi => by rw [fp _ _ (by omega), fe1 _ _ (by omega), fd1 _ _ (by omega) (by omega), c5 _ _ (by omega) (by omega) (by omega)]
  refine ⟨B', fun J => ?_, by rw [p6 _ (by omega)]; exact v60, ?_, by rw [p6 _ (by omega)]; exact v62, by rw [p6 _ (by omega)]; exact v63, by rw [p6 _ (by omega)]; exact v64, by rw [p6 _ (by omega)]; exact v65, ?_, ?_, ?_, ?_, ?_, ?_, ?_, fun s hs => ?_, ?_, ?_, fun q i w1 w2 => ?_⟩
  · have e31 : B1 186 31 = nI h := by rw [f1 _ _ (by omega)]; exact h31
    have i2 : inb (nI h) 2 := vp_in_nI hh (by omega)
    have ch : (nI h).toNatClampNeg = h := nI_clamp (by omega)
    have g205 : B1 205 (nI h).toNatClampNeg - 1 = nI fd := by
      rw [congrArg (B1 205) ch, f1 _ _ (by omega), h205]
      exact nI_pred fd
    unfold mX12_begins
    rw [← hB1, e31, if_pos i2, c1, sb, g205]
    show (if inb (nI 0) 80 then if inb (nI 0) 80 then if inb (nI 0) 10240 then (mX12_fresh0 (a_u2 (a_u2 Bc 214 0 (nI 0)) 218 0 ((a_u2 Bc 214 0 (nI 0)) 214 0)) (nI 0)).bind (fun q2 => (mX12_enters q2 (nI 0) (nI fd)).bind fun q3 => (mX12_settles q3 J (nI 0)).bind fun q4 => some q4) else none else none else none) = _
    rw [if_pos (in80 (by omega)), if_pos (in80 (by omega)), if_pos (show inb (nI 0) 10240 from vp_in_nI (by omega) (by omega)), a_u2_s, ← hBd, fre_ok (by omega), sb, ← hBe, hen, sb]
    exact bsome _
  · rw [fp _ _ (by omega), fe1 _ _ (by omega), fd1 _ _ (by omega) (by omega)]; exact c2
  · rw [fp _ _ (by omega), hBe, a_u2_n _ _ (by omega), a_u2_n _ _ (by omega), a_u2_n _ _ (by omega), a_u2_s]
  · rw [fp _ _ (by omega), hBe, a_u2_n _ _ (by omega), a_u2_n _ _ (by omega), a_u2_s]
  · rw [fp _ _ (by omega), hBe, a_u2_n _ _ (by omega), a_u2_s]
  · rw [fp _ _ (by omega), hBe, a_u2_s]
  · rw [fp _ _ (by omega), fe1 _ _ (by omega), hBd, a_u2_n _ _ (by omega), a_u2_s]
  · rw [fp _ _ (by omega), fe1 _ _ (by omega), hBd, a_u2_s]
  · rw [fp _ _ (by omega), fe1 _ _ (by omega), fd1 _ _ (by omega) (by omega)]; exact c3
  · have := c4 s hs
    rw [show 2 * 0 + s = s by omega] at this
    rw [fp _ _ (by omega), fe1 _ _ (by omega), fd1 _ _ (by omega) (by omega), fp _ _ (by omega), fe1 _ _ (by omega), fd1 _ _ (by omega) (by omega)]
    exact this
  · rw [hB', a_u2_n _ _ (by omega), a_u2_s]
  · rw [hB', a_u2_s, ge _ _ (by omega) (by omega)]
  · rw [fp _ _ (by omega)]; exact ge q i w1 w2
end
