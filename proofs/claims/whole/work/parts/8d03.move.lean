/-! A RUN GOES ON while other cells change (pure) -/
/-- cells of the reference that the half h and a run use -/
def RBc (h q i : Nat) : Prop := (188 ≤ q ∧ q ≤ 191 ∧ 1400 * h ≤ i ∧ i < 1400 * h + 1400) ∨ ((q = 197 ∨ q = 198 ∨ (200 ≤ q ∧ q ≤ 203)) ∧ 12 * h ≤ i ∧ i < 12 * h + 12) ∨ (q = 199 ∧ 48 * h ≤ i ∧ i < 48 * h + 48) ∨ ((q = 204 ∨ q = 205) ∧ i = h) ∨ (212 ≤ q ∧ q ≤ 230) ∨ (q = 186 ∧ (i = 31 ∨ i = 33 ∨ (60 ≤ i ∧ i ≤ 65) ∨ i = 76))
def RJc (h q i : Nat) : Prop := (q = 192 ∧ 1400 * h ≤ i ∧ i < 1400 * h + 1400) ∨ ((q = 193 ∨ q = 194 ∨ q = 196) ∧ 12 * h ≤ i ∧ i < 12 * h + 12) ∨ (q = 195 ∧ 48 * h ≤ i ∧ i < 48 * h + 48) ∨ q = 226
section
variable {sp : Int32} {k h md : Nat} {D : List Df} {L : lT} {B0 B' : iT} {J0 J' : jT} {F F' : fT} {I I' B : iT} {J : jT} {np nm dn sd : Nat} {R : lT} {z : Nat → Prop}
theorem bk_move (H : BK k h md D L B0 J0) (hB : ∀ q i, RBc h q i → q ≤ 205 → q ≠ 186 → B' q i = B0 q i) (hJ : ∀ q i, RJc h q i → q ≠ 226 → J' q i = J0 q i) (h31 : B' 186 31 = nI h) : BK k h md D L B' J' := by
  obtain ⟨s1, s2, s3, s4, s5, s6, s7, s8, s9, s10, ⟨wn, w1, w2, w3⟩, s12, _⟩ := H
  have d3 := s6.2.2.1
  have hA : ∀ v, (1400 * h ≤ v ∧ v < 1400 * h + md) → (B' 188 v = B0 188 v ∧ B' 189 v = B0 189 v ∧ B' 190 v = B0 190 v ∧ B' 191 v = B0 191 v ∧ J' 192 v = J0 192 v) := fun v hv => ⟨hB _ _ (by unfold RBc; omega) (by omega) (by omega), hB _ _ (by unfold RBc; omega) (by omega) (by omega), hB _ _ (by unfold RBc; omega) (by omega) (by omega), hB _ _ (by unfold RBc; omega) (by omega) (by omega), hJ _ _ (by unfold RJc; omega) (by omega)⟩
  have hF : FRD k h D.length md L L B0 B' J0 J' := by
    refine ⟨⟨s3, TE.rfl, s4, SE.rfl, ⟨[], (List.append_nil _).symm⟩, Nat.le_refl _, Nat.le_refl _, hA, fun _ _ => ⟨rfl, rfl, rfl, rfl⟩, fun _ _ => ⟨rfl, rfl⟩⟩, fun f hf => ⟨rfl, rfl, rfl, rfl, rfl⟩, fun f hf => rfl, fun f hf => ⟨?_, ?_, ?_, ?_, ?_, fun i hi => ?_⟩⟩
    · exact hB _ _ (by unfold RBc; omega) (by omega) (by omega)
    · exact hB _ _ (by unfold RBc; omega) (by omega) (by omega)
    · exact hB _ _ (by unfold RBc; omega) (by omega) (by omega)
    · exact hB _ _ (by unfold RBc; omega) (by omega) (by omega)
    · exact hJ _ _ (by unfold RJc; omega) (by omega)
    · exact hB _ _ (by unfold RBc; omega) (by omega) (by omega)
  exact ⟨s1, s2, s3, s4, s5, dd_frd s6 hF (Nat.le_refl _) rfl (hB _ _ (by unfold RBc; omega) (by omega) (by omega)), dx_to s7 hF (Nat.le_refl _) (exb_eq rfl rfl), s8, s9, s10, ⟨wn, w1, w2, by rw [hB _ _ (by unfold RBc; omega) (by omega) (by omega)]; exact w3⟩, s12, h31⟩
theorem run_move (H : RUN sp k h md D L B0 J0 F I B J np nm dn sd R z) (hI : ∀ q, (k + 2 ≤ q ∧ q ≤ k + 13) ∨ (k + 19 ≤ q ∧ q ≤ k + 60) ∨ (148 ≤ q ∧ q ≤ 185) → I' q = I q) (hF : F' 148 12 = k) (hB : ∀ q i, RBc h q i → B' q i = B q i) (hJ : ∀ q i, RJc h q i → J' q i = J q i) : RUN sp k h md D L B' J' F' I' B' J' np nm dn sd R z := by
  obtain ⟨s1, s2, s3, s4, s5, s6, s7, s8, Γ, ch, rl, dp, ow, Gt, Ht, q, mr, rk, t1, t2, t3, t4, t5, t6⟩ := H
  obtain ⟨b1, b2, b3, b4, b5⟩ := s2
  have hk := s4.1
  have h31 : B' 186 31 = nI h := by rw [hB _ _ (by unfold RBc; omega)]; exact b3
  have hB0 : ∀ q i, RBc h q i → q ≤ 205 → q ≠ 186 → B' q i = B0 q i := fun q i w1 w2 w3 => by
    rw [hB q i w1, b1 q (by unfold RBc at w1; omega) (by omega)]
  have hJ0 : ∀ q i, RJc h q i → q ≠ 226 → J' q i = J0 q i := fun q i w1 w2 => by
    rw [hJ q i w1, b2 q (by unfold RJc at w1; omega) (by unfold RJc at w1; omega)]
  have hBK' := bk_move s1 hB0 hJ0 h31
  have fr : ∀ q i, 212 ≤ q → q ≤ 230 → B' q i = B q i := fun q i w1 w2 => hB q i (by unfold RBc; omega)
  have f6 : ∀ i, (i = 31 ∨ i = 33 ∨ (60 ≤ i ∧ i ≤ 65) ∨ i = 76) → B' 186 i = B 186 i := fun i w => hB 186 i (by unfold RBc; omega)
  have f148 : I' 148 = I 148 := hI 148 (by omega)
  obtain ⟨⟨z1, z2, z3, z4, z5, z6, z7⟩, z8⟩ := s6
  obtain ⟨n1, n2, n3, n4, n5, n6, n7, n8, n9, n10, n11, n12⟩ := s7
  refine ⟨hBK', ⟨fun _ _ _ => rfl, fun _ _ _ => rfl, h31, by rw [f6 _ (by omega)]; exact b4, by rw [f6 _ (by omega)]; exact b5⟩, hF, ?_, rn_keep s5 (fun a w1 w2 => hI a (by omega)), ⟨⟨z1, z2, z3, z4, z5, z6, z7⟩, fun y hy => ?_⟩, ⟨by rw [f6 _ (by omega)]; exact n1, by rw [f6 _ (by omega)]; exact n2, by rw [f148]; exact n3, by rw [f6 _ (by omega)]; exact n4, n5, n6, by rw [f6 _ (by omega)]; exact n7, by rw [f148]; exact n8, by rw [f6 _ (by omega)]; exact n9, n10, by rw [f148, f6 _ (by omega)]; exact n11, by rw [f6 _ (by omega)]; exact n12⟩, ⟨s8.1, s8.2.1, fun i hi => ?_⟩, Γ, ch, rl, dp, ow, Gt, Ht, q, mr, rk, t1, chc_keep t2 rfl (fun i => fr _ _ (by omega) (by omega)), t3, t4, qal_keep t5 (fun a _ _ => rfl) (fun a i _ _ => fr _ _ (by omega) (by omega)) (fun _ => hJ _ _ (by unfold RJc; omega)), fun y hy hal => ?_⟩
  · obtain ⟨y1, y2, V, y3, y4⟩ := s4
    refine ⟨y1, fun a ha => (y2 a ha).keep (hI _ ?_) (hI _ ?_), V, y3.keep (hI _ (by omega)) (hI _ (by omega)), y4⟩ <;> unfold rkA at ha <;> omega
  · rw [fr 219 _ (by omega) (by omega), fr 215 _ (by omega) (by omega), fr 216 _ (by omega) (by omega), fr 214 _ (by omega) (by omega), fr 212 _ (by omega) (by omega), fr 217 _ (by omega) (by omega)]
    exact z8 y hy
  · rw [fr _ _ (by omega) (by omega), fr _ _ (by omega) (by omega)]
    exact s8.2.2 i hi
  · obtain ⟨f, e, u, κ, l, m, Q, Rn, Rc, a1, a2, a3, a4, a5, a6, a7, a8, a9, a10, a11, a12⟩ := t6 y hy hal
    have hh := s1.2.1
    have g31 : B0 186 31 = nI h := s1.2.2.2.2.2.2.2.2.2.2.2.2
    have hQ : ∀ v, Q v → 1400 * h ≤ v ∧ v < 1400 * h + 1400 := fun v hv => by
      have := a6.2 v hv
      rw [g31, nI_clamp (by omega)] at this
      exact this
    have hPK : PK k L L B0 B' J0 J' Q Rn Rc := ⟨s1.2.2.1, TE.rfl, s1.2.2.2.1, SE.rfl, ⟨[], (List.append_nil _).symm⟩, Nat.le_refl _, Nat.le_refl _, fun v hv => by
      have := hQ v hv
      exact ⟨hB0 _ _ (by unfold RBc; omega) (by omega) (by omega), hB0 _ _ (by unfold RBc; omega) (by omega) (by omega), hB0 _ _ (by unfold RBc; omega) (by omega) (by omega), hB0 _ _ (by unfold RBc; omega) (by omega) (by omega), hJ0 _ _ (by unfold RJc; omega) (by omega)⟩, fun _ _ => ⟨rfl, rfl, rfl, rfl⟩, fun _ _ => ⟨rfl, rfl⟩⟩
    have hu := hQ u (pr_m a5).2.1
    refine ⟨f, e, u, κ, l, m, Q, Rn, Rc, a1, a2, a3, by rw [fr _ _ (by omega) (by omega)]; exact a4, pr_to hPK (fun _ h => h) (fun _ h => h) (fun _ h => h) m m (Nat.le_refl _) _ _ _ _ a5, ⟨a6.1, fun v hv => by rw [h31, nI_clamp (by omega)]; exact hQ v hv⟩, a7, a8, a9, fun i t hi => ?_, fun i t hi => ?_, fun hz => ?_⟩
    · rw [fr _ _ (by omega) (by omega)]
      exact a10 i t hi
    · rw [fr _ _ (by omega) (by omega)]
      exact a11 i t hi
    · rw [hB0 188 u (by unfold RBc; omega) (by omega) (by omega)]
      exact a12 hz
end
