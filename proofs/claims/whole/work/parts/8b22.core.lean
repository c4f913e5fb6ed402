/-! ONE STEP with all behind it (pure) -/
theorem nI_sub1 {n : Nat} (h : 1 ≤ n) : nI n - 1 = nI (n - 1) := by
  obtain ⟨m, rfl⟩ : ∃ m, n = m + 1 := ⟨n - 1, by omega⟩
  exact nI_pred m
theorem real_c {B B' : iT} (h : B' 220 = B 220) : ∀ (n : Nat) (x y : Int32), mX12_real_2 n B' x y = mX12_real_2 n B x y := by
  intro n
  induction n with
  | zero => intro x y; rfl
  | succ n ih => intro x y; rw [mX12_real_2, mX12_real_2, h, ih]
theorem waits_c {B B' : iT} (h : ∀ q, 187 ≤ q → q ≠ 215 → B' q = B q) (h31 : B' 186 31 = B 186 31) (x : Int32) : mX12_waits B' x = mX12_waits B x := by
  have e1 : ∀ y, mX12_value B' x y = mX12_value B x y := fun y => by unfold mX12_value; rw [h 218 (by omega) (by omega)]
  have e2 : ∀ y, mX12_real B' y = mX12_real B y := fun y => by unfold mX12_real; exact real_c (h 220 (by omega) (by omega)) _ _ _
  have e3 : ∀ y, mX12_isGiven B' x y = mX12_isGiven B x y := fun y => by unfold mX12_isGiven mX12_def0; rw [h 212 (by omega) (by omega), h 198 (by omega) (by omega), h31]
  have e4 : ∀ y, mX12_reads B' x y = mX12_reads B x y := fun y => by
    unfold mX12_reads mX12_reads_26
    simp only [e1, e2, e3]
  unfold mX12_waits
  rw [h 219 (by omega) (by omega), h 213 (by omega) (by omega), h 188 (by omega) (by omega), h 189 (by omega) (by omega), h 221 (by omega) (by omega)]
  simp only [e4]
section
variable {sp : Int32} {k h md : Nat} {D : List Df} {L : lT} {B0 : iT} {J0 : jT} {F : fT} {I B : iT} {J : jT} {np nm dn sd : Nat} {R : lT} {p : Nat}
theorem s55 (hp : p < 80) (x1 : Int32) : mX12_step_55 B J x1 (nI p) = (mX12_goesOn (a_u2 (a_u2 B 186 62 ((B 186 62) + 1)) 215 p (((a_u2 B 186 62 ((B 186 62) + 1)) 215 p) + 1)) J (nI p)).bind fun q1 => if (q1.1 219 p) = 0 then (mX12_settles q1.1 q1.2 (nI p)).bind fun q2 => some (nI p, q2, q1.2) else some (nI p, q1.1, q1.2) := by
  unfold mX12_step_55
  simp only [if_pos (in80 hp), cl80 hp]
theorem run_RK {z : Nat → Prop} (H : RUN sp k h md D L B0 J0 F I B J np nm dn sd R z) : RK I k L ∧ RN I R ∧ PCc np R B := ⟨H.2.2.2.1, H.2.2.2.2.1, H.2.2.2.2.2.1⟩
theorem made_ok {z : Nat → Prop} (H : RUN sp k h md D L B0 J0 F I B J np nm dn sd R z) : mX6_made I = some (nI np) := by
  obtain ⟨_, h2, h3⟩ := run_RK H
  unfold mX6_made
  rw [rn_size h2 (by unfold rnA; omega), sb, h3.1.1]
theorem core_ok (H : RUN sp k h md D L B0 J0 F I B J np nm dn sd R (fun _ => True)) (hp : p < np) (hal : gI (R 168) p = 0) (hw : mX12_waits B (nI p) = some 0) (hd : dn < 600) (h80 : ∀ κ : Nat, gI (R 166) p = nI κ → κ < 2 ^ 31 → gI (L (k + 47)) κ = 309 → np < 80) (y1 y2 y3 : Int32) : ∃ I' B' J' R' np' nm' sd', mX6_advance_83 I F y1 (nI p) y2 = ((mX6_findReady I' F).bind fun q7 => some (nI p, q7)) ∧ mX12_step_55 B J y3 (nI p) = some (nI p, B', J') ∧ RUN sp k h md D L B0 J0 F I' B' J' np' nm' (dn + 1) sd' R' (fun _ => True) := by
  have hnp := run_80 H
  have hsc := H.2.2.2.2.2.2.1
  obtain ⟨I1, R1, a1, H1, a3⟩ := tick_ok H hp hd
  have hw1 : mX12_waits (a_u2 (a_u2 B 186 62 ((B 186 62) + 1)) 215 p (((a_u2 B 186 62 ((B 186 62) + 1)) 215 p) + 1)) (nI p) = some 0 := by
    rw [waits_c (B := B) (fun q w1 w2 => by rw [a_u2_r _ _ w2, a_u2_r _ _ (by omega)]) (by rw [a_u2_n _ _ (by omega), a_u2_n _ _ (by omega)])]
    exact hw
  have ac := act_ok H1 hp (by rw [a3 168 (by omega)]; exact hal) trivial hw1 (by have := hsc.2.2.2.2.2.1; omega) (by have := hsc.2.2.2.2.2.2.2.2.2.1; omega) (by rw [a3 166 (by omega)]; exact h80)
  rw [s55 (by omega)]
  unfold mX6_advance_83
  rw [a1, sb]
  rcases ac with ⟨I2, B2, J2, R2, nm', sd', b1, b2, H2⟩ | ⟨I2, B2, R2, b1, b2, H2, b3, b4⟩
  · rw [b1, b2, sb, sb]
    obtain ⟨_, hN2, hPC2⟩ := run_RK H2
    have hov := hPC2.2 p hp
    have e219 := hov.2.1
    show ∃ I' B' J' R' np' nm' sd', ((mX6_settle I2 F (nI p)).bind _) = _ ∧ (if B2 219 p = 0 then (mX12_settles B2 J2 (nI p)).bind fun q2 => some (nI p, q2, J2) else some (nI p, B2, J2)) = some (nI p, B', J') ∧ _
    rcases hov.1 with c0 | c1
    · obtain ⟨κ, u, κ', u', d1, d2, d3, d4, d5⟩ := set_ok H2 hp c0
      obtain ⟨I3, R3, e1, e2, e3, e4, e5, e6⟩ := d3 I2 R2 (run_RK H2).1 hN2 (fun _ _ => rfl) d1 (by rw [hPC2.1.2.1]; exact hp)
      obtain ⟨B3, f1, f2, f3, f4⟩ := d4 B2 H2.2.1.1 (fun _ _ => rfl) H2.2.1.2.2.2.2 d2
      have H3 := d5 I3 B3 R3 (fun _ => True) e2 e3 e4 e5 e6 f2 f3 f4 (fun y hy _ => ⟨trivial, hy⟩)
      obtain ⟨I4, R4, g1, H4, g3⟩ := last_ok (x := np - 1) H3 (by omega) (fun _ => trivial)
      refine ⟨I4, B3, J2, R4, np, nm', sd', ?_, ?_, H4⟩
      · have em : nI np - 1 = nI (np - 1) := nI_sub1 (by omega)
        rw [e1, sb, made_ok H3, sb, em, g1, sb]
      · rw [e219, if_pos c0, f1, sb]
    · obtain ⟨I3, R3, e1, H3, e3⟩ := last_ok (x := p) H2 hp (fun y => by rw [c1] at y; exact absurd y (by decide))
      have H3' := run_z (z' := fun _ => True) H3 (fun y _ hy _ => ⟨trivial, fun w => by rw [w, e3, c1] at hy; exact absurd hy (by decide)⟩)
      obtain ⟨I4, R4, g1, H4, g3⟩ := last_ok (x := np - 1) H3' (by omega) (fun _ => trivial)
      refine ⟨I4, B2, J2, R4, np, nm', sd', ?_, ?_, H4⟩
      · have em : nI np - 1 = nI (np - 1) := nI_sub1 (by omega)
        rw [e1, sb, made_ok H3', sb, em, g1, sb]
      · rw [e219, if_neg (by rw [c1]; decide)]
  · rw [b1, b2, sb]
    obtain ⟨_, hN2, hPC2⟩ := run_RK H2
    have e219 : B2 219 p = 0 := by rw [(hPC2.2 p (by omega)).2.1]; exact b3
    obtain ⟨κ, u, κ', u', d1, d2, d3, d4, d5⟩ := set_ok H2 (x := p) (by omega) b3
    obtain ⟨I3, R3, e1, e2, e3, e4, e5, e6⟩ := d3 I2 R2 (run_RK H2).1 hN2 (fun _ _ => rfl) d1 (by rw [hPC2.1.2.1]; omega)
    obtain ⟨Bx, f1, f2, f3, f4⟩ := d4 B2 H2.2.1.1 (fun _ _ => rfl) H2.2.1.2.2.2.2 d2
    have H3 := d5 I3 Bx R3 (fun y => y ≠ np) e2 e3 e4 e5 e6 f2 f3 f4 (fun y hy hz => ⟨trivial, hy, hz⟩)
    obtain ⟨_, hN3, hPC3⟩ := run_RK H3
    obtain ⟨κc, uc, κc', uc', g1, g2, g3, g4, g5⟩ := set_ok H3 (x := np) (by omega) (by rw [e5.1 168 (by omega)]; exact b4)
    obtain ⟨I4, R4, i1, i2, i3, i4, i5, i6⟩ := g3 I3 R3 e2 e3 (fun _ _ => rfl) g1 (by rw [hPC3.1.2.1]; omega)
    have fx : ∀ q i, ¬ (q = 186 ∧ i = 76) → q ≠ 229 → ¬ (q = 213 ∧ i = p) → Bx q i = B2 q i := f4
    obtain ⟨Bc, j1, j2, j3, j4⟩ := g4 B2 H2.2.1.1 (fun i _ => (fx _ _ (by omega) (by omega) (by omega)).symm) H2.2.1.2.2.2.2 (by rw [← fx _ _ (by omega) (by omega) (by omega)]; exact g2)
    obtain ⟨Bp, l1, l2, l3, l4⟩ := d4 Bc (fun q w1 w2 => by rw [← H2.2.1.1 q w1 w2]; exact funext fun i => j4 _ _ (by omega) (by omega) (by omega)) (fun i _ => j4 _ _ (by omega) (by omega) (by omega)) j2 (by rw [j4 _ _ (by omega) (by omega) (by omega)]; exact d2)
    have H4 := g5 I4 Bp R4 (fun _ => True) i2 i3 i4 i5 i6 l2 (by rw [l4 _ _ (by omega) (by omega) (by omega)]; exact j3) (fun q i w1 w2 w3 => by
      by_cases q0 : q = 213 ∧ i = p
      · obtain ⟨rfl, rfl⟩ := q0
        rw [l3, f3]
      · rw [l4 q i w1 w2 q0, j4 q i w1 w2 w3, fx q i w1 w2 q0]) (fun y hy _ => hy)
    refine ⟨I4, Bp, J, R4, np + 1, nm, sd, ?_, ?_, H4⟩
    · have em : nI (np + 1) - 1 = nI np := nI_sub1 (by omega)
      rw [e1, sb, made_ok H3, sb, em, i1, sb]
    · rw [j1, sb, sb]
      show (if Bc 219 p = 0 then (mX12_settles Bc J (nI p)).bind fun q2 => some (nI p, q2, J) else some (nI p, Bc, J)) = _
      rw [j4 _ _ (by omega) (by omega) (by omega), if_pos e219, l1, sb]
end
