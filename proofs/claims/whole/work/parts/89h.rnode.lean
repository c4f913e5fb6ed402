/-! A NODE OF A P BEGINS IN THE REFERENCE (pure) -/
section
variable {k h M n : Nat} {D : List Df} {F : fT} {I B : iT} {J : jT} {L : lT} {P md nest wd b z : Nat} {S : List Sl} {a6 a8 a0 : List Int32}
theorem ps_rnode (H : PS k h M n D F I B J L P md nest S a6 a8 a0 wd b z) (hmd : md < 1000) (hP : md + 1 ≤ P) (x1 x2 x3 : Int32) (w : Int64) : ∃ B' J', mX12_node B J x1 x2 x3 w = some (nI (1400 * h + md), B', J') ∧ PS k h M n D F I B' J' L P (md + 1) nest S a6 a8 a0 wd b z ∧ B' 188 (1400 * h + md) = x1 ∧ B' 189 (1400 * h + md) = x2 ∧ B' 190 (1400 * h + md) = x3 ∧ B' 191 (1400 * h + md) = -1 ∧ J' 192 (1400 * h + md) = w ∧ rS h md B J B' J' ∧ (∀ q i, ¬ (q = 186 ∧ i = 17) → ¬ (188 ≤ q ∧ q ≤ 191 ∧ i = 1400 * h + md) → B' q i = B q i) ∧ (∀ q i, ¬ (q = 192 ∧ i = 1400 * h + md) → J' q i = J q i) := by
  have hh := H.1.2.2.2.2.1
  obtain ⟨B1, J1, n1, n2, n3, n4, n5, n6, n7, n8, n9⟩ := xs_node H.1 hmd x1 x2 x3 w
  obtain ⟨B2, J2, m1, m2, m3, m4, m5, m6, m7, m8, m9⟩ := node_ok (B := B) (J := J) (bs := 1400 * h) (m := md) hh.2.1 hh.2.2.1 (by omega) x1 x2 x3 w
  have e : (nI (1400 * h + md), B1, J1) = (nI (1400 * h + md), B2, J2) := Option.some.inj (n1.symm.trans m1)
  have eB : B1 = B2 := congrArg (fun y : Int32 × iT × jT => y.2.1) e
  refine ⟨B1, J1, n1, ps_xs H (n2 P (Nat.le_refl _) hP) (fun _ _ => rfl) (Nat.le_refl _) cS.rfl n7, n3, n4, n5, by rw [eB]; exact m6, n6, n7, n8, n9⟩
/-- the reference keeps the head -/
theorem ps_49 (H : PS k h M n D F I B J L P md nest S a6 a8 a0 wd b z) (i : Nat) (hi : 46 ≤ i ∧ i ≤ 51 ∧ i ≠ 47) (v : Int32) : PS k h M n D F I (a_u2 B 186 i v) J L P md nest S a6 a8 a0 wd b z := by
  obtain ⟨⟨x1, x2, x3, x4, ⟨y1, y2, y3, y4⟩, x6, ⟨y5, y6⟩, x8⟩, ⟨h2, h3⟩, h4, h5, ⟨h6, h7⟩, h10, h13⟩ := H
  have fB : ∀ q j, ¬ (q = 186 ∧ j = i) → (a_u2 B 186 i v) q j = B q j := fun q j w => a_u2_n _ _ w
  exact ⟨⟨x1, x2, x3, x4, ⟨y1, by rw [fB _ _ (by omega)]; exact y2, by rw [fB _ _ (by omega)]; exact y3, y4⟩, sr_to x6 x3 TE.rfl (fun _ _ _ => rfl) (fB _ _ (by omega)) (fun _ => fB _ _ (by omega)) (fun _ => fB _ _ (by omega)) (fun _ => rfl) (fun _ _ _ => ⟨fB _ _ (by omega), fB _ _ (by omega), fB _ _ (by omega), fB _ _ (by omega), rfl⟩), ⟨by rw [fB _ _ (by omega)]; exact y5, y6⟩, x8⟩, ⟨h2, by rw [fB _ _ (by omega)]; exact h3⟩, h4, dd_to h5 x3 TE.rfl rfl (fun _ _ => rfl) (fun _ _ => rfl) (fun _ _ => rfl) (fun _ _ _ => ⟨fB _ _ (by omega), fB _ _ (by omega), fB _ _ (by omega), fB _ _ (by omega), rfl⟩) (fun q j hq => fB _ _ (by omega)) (fun _ => rfl), ⟨by rw [fB _ _ (by omega)]; exact h6, h7⟩, h10, h13⟩
end
