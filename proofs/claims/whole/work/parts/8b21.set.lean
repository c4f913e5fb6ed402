/-! A step is counted; ifs behind it (pure) -/
section
variable {sp : Int32} {k h md : Nat} {D : List Df} {L : lT} {B0 : iT} {J0 : jT} {F : fT} {I B : iT} {J : jT} {np nm dn sd : Nat} {R : lT} {z : Nat → Prop} {p x : Nat}
theorem run_z {z' : Nat → Prop} (H : RUN sp k h md D L B0 J0 F I B J np nm dn sd R z) (hz : ∀ y, y < np → gI (R 168) y = 0 → z' y → z y) : RUN sp k h md D L B0 J0 F I B J np nm dn sd R z' := by
  obtain ⟨s1, s2, s3, s4, s5, s6, s7, s8, Γ, ch, rl, dp, ow, Gt, Ht, q, mr, rk, h1, h2, h3, h4, h5, h6⟩ := H
  exact ⟨s1, s2, s3, s4, s5, s6, s7, s8, Γ, ch, rl, dp, ow, Gt, Ht, q, mr, rk, h1, h2, h3, h4, h5, fun y hy hal => prc_keep (σ := id) (h6 y hy hal) (fun f e hf => (bk_def s1 hf).2.1) rfl rfl rfl (fun _ _ => rfl) (fun _ _ => rfl) (Nat.le_refl _) (fun _ _ => rfl) (fun _ _ _ => rfl) (hz y hy hal)⟩
theorem run_80 (H : RUN sp k h md D L B0 J0 F I B J np nm dn sd R z) : np ≤ 80 := by
  obtain ⟨s1, s2, s3, s4, s5, s6, s7, s8, Γ, ch, rl, dp, ow, Gt, Ht, q, mr, rk, h1, h2, h3, h4, h5, h6⟩ := H
  exact h2.2.1
theorem tick_ok (H : RUN sp k h md D L B0 J0 F I B J np nm dn sd R z) (hp : p < np) (hd : dn < 600) : ∃ I1 R1, mX4_bump 170 (a_u2 I 148 14 ((I 148 14) + 1)) (nI p) 1 = some I1 ∧ RUN sp k h md D L B0 J0 F I1 (a_u2 (a_u2 B 186 62 ((B 186 62) + 1)) 215 p (((a_u2 B 186 62 ((B 186 62) + 1)) 215 p) + 1)) J np nm (dn + 1) sd R1 z ∧ (∀ a, a ≠ 170 → R1 a = R a) := by
  have h80 := run_80 H
  obtain ⟨s1, s2, s3, s4, s5, s6, s7, s8, Γ, ch, rl, dp, ow, Gt, Ht, q, mr, rk, h1, h2, h3, h4, h5, h6⟩ := H
  have hk := s4.1
  have hN0 : RN (a_u2 I 148 14 ((I 148 14) + 1)) R := rn_keep s5 (fun a w1 w2 => funext fun i => a_u2_n _ _ (by omega))
  have hK0 : RK (a_u2 I 148 14 ((I 148 14) + 1)) k L := rk_keep s4 (fun a w1 w2 => funext fun i => a_u2_n _ _ (by omega))
  obtain ⟨I1, a1, a2, a3⟩ := rn_bump hN0 (a := 170) (by unfold rnA; omega) (j := p) (by omega) 1
  obtain ⟨⟨z1, z2, z3, z4, z5, z6, z7⟩, z8⟩ := s6
  obtain ⟨n1, n2, n3, n4, n5, n6, n7, n8, n9, n10, n11, n12⟩ := s7
  obtain ⟨R1, hR1⟩ : ∃ X, X = upL R 170 ((R 170).set p (gI (R 170) p + 1)) := ⟨_, rfl⟩
  rw [← hR1] at a2
  have fR : ∀ a, a ≠ 170 → R1 a = R a := fun a w => by rw [hR1, upL_n _ _ w]
  have e170 : R1 170 = (R 170).set p (gI (R 170) p + 1) := by rw [hR1, upL_s]
  obtain ⟨B1, hB1⟩ : ∃ X, X = a_u2 (a_u2 B 186 62 ((B 186 62) + 1)) 215 p (((a_u2 B 186 62 ((B 186 62) + 1)) 215 p) + 1) := ⟨_, rfl⟩
  rw [← hB1]
  have fB : ∀ q i, ¬ (q = 186 ∧ i = 62) → ¬ (q = 215 ∧ i = p) → B1 q i = B q i := fun q i w1 w2 => by rw [hB1, a_u2_n _ _ w2, a_u2_n _ _ w1]
  have e62 : B1 186 62 = nI (dn + 1) := by rw [hB1, a_u2_n _ _ (by omega), a_u2_s, n4, nI_1]
  have e215 : B1 215 p = B 215 p + 1 := by rw [hB1, a_u2_s, a_u2_n _ _ (by omega)]
  have f148 : ∀ i, i ≠ 14 → I1 148 i = I 148 i := fun i hi => by rw [a3 148 (by omega) (by omega), a_u2_n _ _ (by omega)]
  have e14 : I1 148 14 = nI (dn + 1) := by rw [a3 148 (by omega) (by omega), a_u2_s, n3, nI_1]
  have hT1 := h1
  rw [← fR 158 (by omega), ← fR 160 (by omega), show (fun x => gI (R 168) x = 0) = (fun x => gI (R1 168) x = 0) by rw [fR 168 (by omega)]] at hT1
  refine ⟨I1, R1, a1, ⟨s1, ⟨fun q w1 w2 => ?_, s2.2.1, by rw [fB _ _ (by omega) (by omega)]; exact s2.2.2.1, by rw [fB _ _ (by omega) (by omega)]; exact s2.2.2.2.1, by rw [fB _ _ (by omega) (by omega)]; exact s2.2.2.2.2⟩, s3, rk_keep hK0 (fun a w1 w2 => a3 a (by omega) (by omega)), a2, ⟨⟨by rw [fR 164 (by omega)]; exact z1, by rw [fR 166 (by omega)]; exact z2, by rw [fR 168 (by omega)]; exact z3, by rw [e170, List.length_set]; exact z4, by rw [fR 172 (by omega)]; exact z5, by rw [fR 174 (by omega)]; exact z6, by rw [fR 176 (by omega)]; exact z7⟩, fun y hy => ?_⟩, ⟨by rw [fB _ _ (by omega) (by omega)]; exact n1, by rw [fB _ _ (by omega) (by omega)]; exact n2, e14, e62, by omega, by omega, by rw [fB _ _ (by omega) (by omega)]; exact n7, by rw [f148 _ (by omega)]; exact n8, by rw [fB _ _ (by omega) (by omega)]; exact n9, by omega, by rw [f148 _ (by omega), fB _ _ (by omega) (by omega)]; exact n11, by rw [fB _ _ (by omega) (by omega)]; exact n12⟩, ?_, Γ, ch, rl, dp, ow, Gt, Ht, q, mr, rk, hT1, chc_keep h2 (fR 150 (by omega)) (fun i => fB _ _ (by omega) (by omega)), fun x hx => by rw [fR 168 (by omega)]; exact h3 x hx, chl_keep h4 (fun a _ _ => fR a (by omega)), qal_keep h5 (fun a _ _ => fR a (by omega)) (fun a i _ _ => fB _ _ (by omega) (by omega)) (fun _ => rfl), fun y hy hal => ?_⟩, fR⟩
  · rw [← s2.1 q w1 w2]
    exact funext fun i => fB _ _ (by omega) (by omega)
  · rw [fR 168 (by omega), fR 174 (by omega), fR 164 (by omega), fR 172 (by omega), fR 176 (by omega), fB 219 _ (by omega) (by omega), fB 216 _ (by omega) (by omega), fB 214 _ (by omega) (by omega), fB 212 _ (by omega) (by omega), fB 217 _ (by omega) (by omega)]
    obtain ⟨y1, y2, y3, y4, y5, y6, y7, y8, y9⟩ := z8 y hy
    by_cases e0 : y = p
    · subst e0
      rw [e215, e170, gI_se (by omega), y3]
      exact ⟨y1, y2, rfl, y4, y5, y6, y7, y8, y9⟩
    · rw [fB 215 _ (by omega) (by omega), e170, gI_sn e0]
      exact ⟨y1, y2, y3, y4, y5, y6, y7, y8, y9⟩
  · unfold SAI
    rw [fR 182 (by omega), fR 184 (by omega)]
    refine ⟨s8.1, s8.2.1, fun i hi => ?_⟩
    rw [fB _ _ (by omega) (by omega), fB _ _ (by omega) (by omega)]
    exact s8.2.2 i hi
  · rw [fR 168 (by omega)] at hal
    exact prc_keep (σ := id) (h6 y hy hal) (fun f e hf => (bk_def s1 hf).2.1) (by rw [fR 164 (by omega)]) (by rw [fR 166 (by omega)]) (fB _ _ (by omega) (by omega)) (fun i _ => by rw [fR 176 (by omega)]) (fun i _ => fB _ _ (by omega) (by omega)) (Nat.le_refl _) (fun x _ => rfl) (fun i t _ => rfl) (fun hz => hz)
/-- what settling x may change -/
theorem set_run {Γ : Nat → Gm} {ch : Nat → Nat → Nat} {rl dp : Nat → Nat} {ow : Nat → Nat × Nat × Nat} {Gt Ht : Nat → Nat} {q : Nat → List Nat} {mr rk : Nat → Nat} (s1 : BK k h md D L B0 J0) (s2 : SB h B0 J0 B J) (s3 : F 148 12 = k) (s4 : RK I k L) (s6 : PCc np R B) (s7 : SCA sp np nm dn sd I B) (s8 : SAI sd R B) (hT : TLK k D L B0 J0 np nm R B J z Γ ch rl dp ow Gt Ht q mr rk) {z' : Nat → Prop} {I' B' : iT} {R' : lT} (hK : RK I' k L) (hN : RN I' R') (h1 : SR1 x R R') (h2 : SFr k I I') (h76 : B' 186 76 = nI 0) (hB : ∀ q i, ¬ (q = 186 ∧ i = 76) → q ≠ 229 → ¬ (q = 213 ∧ i = x) → B' q i = B q i) (hz : ∀ y, y ≠ x → z' y → z y) (hx : gI (R 168) x = 0 → x < np → PRC k D L B0 J0 np rl ch R' B' z' x (Γ x)) : RUN sp k h md D L B0 J0 F I' B' J np nm dn sd R' z' := by
  obtain ⟨t1, t2, t3, t4, t5, t6⟩ := hT
  have hk := s4.1
  obtain ⟨fR, fl, fg⟩ := h1
  obtain ⟨⟨z1, z2, z3, z4, z5, z6, z7⟩, z8⟩ := s6
  obtain ⟨n1, n2, n3, n4, n5, n6, n7, n8, n9, n10, n11, n12⟩ := s7
  have f148 : I' 148 = I 148 := h2 148 (by omega) (by omega) (by omega) (by omega)
  rw [← fR 158 (by omega), ← fR 160 (by omega), show (fun x => gI (R 168) x = 0) = (fun x => gI (R' 168) x = 0) by rw [fR 168 (by omega)]] at t1
  refine ⟨s1, ⟨fun q w1 w2 => ?_, s2.2.1, by rw [hB _ _ (by omega) (by omega) (by omega)]; exact s2.2.2.1, by rw [hB _ _ (by omega) (by omega) (by omega)]; exact s2.2.2.2.1, h76⟩, s3, hK, hN, ⟨⟨by rw [fR 164 (by omega)]; exact z1, by rw [fl]; exact z2, by rw [fR 168 (by omega)]; exact z3, by rw [fR 170 (by omega)]; exact z4, by rw [fR 172 (by omega)]; exact z5, by rw [fR 174 (by omega)]; exact z6, by rw [fR 176 (by omega)]; exact z7⟩, fun y hy => ?_⟩, ⟨by rw [hB _ _ (by omega) (by omega) (by omega)]; exact n1, by rw [hB _ _ (by omega) (by omega) (by omega)]; exact n2, by rw [f148]; exact n3, by rw [hB _ _ (by omega) (by omega) (by omega)]; exact n4, n5, n6, by rw [hB _ _ (by omega) (by omega) (by omega)]; exact n7, by rw [f148]; exact n8, by rw [hB _ _ (by omega) (by omega) (by omega)]; exact n9, n10, by rw [f148, hB _ _ (by omega) (by omega) (by omega)]; exact n11, by rw [hB _ _ (by omega) (by omega) (by omega)]; exact n12⟩, ?_, Γ, ch, rl, dp, ow, Gt, Ht, q, mr, rk, t1, chc_keep t2 (fR 150 (by omega)) (fun i => hB _ _ (by omega) (by omega) (by omega)), fun x hx => by rw [fR 168 (by omega)]; exact t3 x hx, chl_keep t4 (fun a _ _ => fR a (by omega)), qal_keep t5 (fun a _ _ => fR a (by omega)) (fun a i _ _ => hB _ _ (by omega) (by omega) (by omega)) (fun _ => rfl), fun y hy hal => ?_⟩
  · rw [← s2.1 q w1 w2]
    exact funext fun i => hB _ _ (by omega) (by omega) (by omega)
  · rw [fR 168 (by omega), fR 170 (by omega), fR 174 (by omega), fR 164 (by omega), fR 172 (by omega), fR 176 (by omega), hB 219 _ (by omega) (by omega) (by omega), hB 215 _ (by omega) (by omega) (by omega), hB 216 _ (by omega) (by omega) (by omega), hB 214 _ (by omega) (by omega) (by omega), hB 212 _ (by omega) (by omega) (by omega), hB 217 _ (by omega) (by omega) (by omega)]
    exact z8 y hy
  · unfold SAI
    rw [fR 182 (by omega), fR 184 (by omega)]
    refine ⟨s8.1, s8.2.1, fun i hi => ?_⟩
    rw [hB _ _ (by omega) (by omega) (by omega), hB _ _ (by omega) (by omega) (by omega)]
    exact s8.2.2 i hi
  · rw [fR 168 (by omega)] at hal
    by_cases e0 : y = x
    · subst e0
      exact hx hal hy
    · exact prc_keep (σ := id) (t6 y hy hal) (fun f e hf => (bk_def s1 hf).2.1) (by rw [fR 164 (by omega)]) (fg y e0) (hB _ _ (by omega) (by omega) (by omega)) (fun i _ => by rw [fR 176 (by omega)]) (fun i _ => hB _ _ (by omega) (by omega) (by omega)) (Nat.le_refl _) (fun x _ => rfl) (fun i t _ => rfl) (hz y e0)
/-- x goes through its ifs: halves, and what both come to -/
theorem set_ok (H : RUN sp k h md D L B0 J0 F I B J np nm dn sd R z) (hx : x < np) (hal : gI (R 168) x = 0) : ∃ κ u κ' u' : Nat, gI (R 166) x = nI κ ∧ B 213 x = nI u ∧
    (∀ (I2 : iT) (R2 : lT), RK I2 k L → RN I2 R2 → (∀ i, i < 85 → gI (R2 176) (x * 85 + i) = gI (R 176) (x * 85 + i)) → gI (R2 166) x = nI κ → x < (R2 166).length → ∃ I' R', mX6_settle I2 F (nI x) = some I' ∧ RK I' k L ∧ RN I' R' ∧ gI (R' 166) x = nI κ' ∧ SR1 x R2 R' ∧ SFr k I2 I') ∧
    (∀ B2 : iT, (∀ q, 188 ≤ q → q ≤ 205 → B2 q = B0 q) → (∀ i, i < 128 → B2 218 (128 * x + i) = B 218 (128 * x + i)) → B2 186 76 = nI 0 → B2 213 x = nI u → ∃ B', mX12_settles B2 J (nI x) = some B' ∧ B' 186 76 = nI 0 ∧ B' 213 x = nI u' ∧ (∀ q i, ¬ (q = 186 ∧ i = 76) → q ≠ 229 → ¬ (q = 213 ∧ i = x) → B' q i = B2 q i)) ∧
    (∀ (I' B' : iT) (R' : lT) (z' : Nat → Prop), RK I' k L → RN I' R' → gI (R' 166) x = nI κ' → SR1 x R R' → SFr k I I' → B' 186 76 = nI 0 → B' 213 x = nI u' → (∀ q i, ¬ (q = 186 ∧ i = 76) → q ≠ 229 → ¬ (q = 213 ∧ i = x) → B' q i = B q i) → (∀ y, y ≠ x → z' y → z y) → RUN sp k h md D L B0 J0 F I' B' J np nm dn sd R' z') := by
  have H0 := H
  have h80 := run_80 H
  obtain ⟨s1, s2, s3, s4, s5, s6, s7, s8, Γ, ch, rl, dp, ow, Gt, Ht, q, mr, rk, t1, t2, t3, t4, t5, t6⟩ := H
  have hk := s4.1
  have hPx := t6 x hx hal
  obtain ⟨f, e, u, κ, l, m, Q, Rn, Rc, a1, a2, a3, a4, a5, a6, a7, a8, a9, a10, a11, a12⟩ := hPx
  have a60 := a6.1
  have hL : (L (k + 19)).length ≤ 1000 := s1.2.2.2.2.2.2.2.2.1.1
  have hL7 : (L (k + 47)).length ≤ 250 := s1.2.2.2.2.2.2.2.2.1.2.1
  obtain ⟨u', κ', l', m', b1, b2, b3, b4, b5, b6⟩ := se_ok (s := fun j => gI (R 176) (x * 85 + j)) hk (show x < 80 by omega) (bk_def s1 a1).2.1 hL hL7 m u κ l 0 (by omega) a5
  have lt : ∀ j, nsG (Γ x) j → j < 85 := fun j hj => by obtain ⟨t, ht⟩ := hj; have := (List.getElem?_eq_some_iff.mp ht).1; omega
  have e1 : LF - m + m = LF := by unfold LF; omega
  refine ⟨κ, u, κ', u', a3, a4, fun I2 R2 hK2 hN2 hs h166 hl => ?_, fun B2 hB2 hs h76 h213 => ?_, fun I' B' R' z' hK' hN' w1 w2 w3 w4 w5 w6 w7 => ?_⟩
  · obtain ⟨I', R', c1, c2, c3, c4, c5, c6⟩ := b5 I2 R2 F (LF - m) hK2 hN2 s3 (fun j hj => hs j (lt j hj)) h166 hl
    rw [e1] at c1
    exact ⟨I', R', c1, c2, c3, c4, c5, c6⟩
  · obtain ⟨B', c1, c2, c3, c4⟩ := b6 B2 J (LF - m) ⟨hB2, fun j hj => by
      have hl := lt j hj
      have hsg := sg_spec e.2.1.length j
      have hn := (bk_def s1 a1).2.1
      obtain ⟨t, ht⟩ := hj
      rw [hs _ (by omega)]
      exact (a10 j t ht).symm⟩ h76 h213 (fun v => by rw [s2.2.1 192 (by omega) (by omega)])
    rw [e1] at c1
    exact ⟨B', c1, c2, c3, c4⟩
  · refine set_run s1 s2 s3 s4 s6 s7 s8 ⟨t1, t2, t3, t4, t5, t6⟩ hK' hN' w2 w3 w4 w6 w7 (fun _ _ => ⟨f, e, u', κ', l', m', Q, Rn, Rc, a1, by rw [w2.1 164 (by omega)]; exact a2, w1, w5, b2, ⟨by omega, a6.2⟩, a7, a8, a9, fun i t hi => ?_, fun i t hi => ?_, fun _ => ⟨b3, b4⟩⟩)
    · rw [w2.1 176 (by omega), w6 _ _ (by omega) (by omega) (by omega)]
      exact a10 i t hi
    · rw [w2.1 176 (by omega), w6 _ _ (by omega) (by omega) (by omega)]
      exact a11 i t hi
/-- the class settles x again, or one who is OVER -/
theorem last_ok (H : RUN sp k h md D L B0 J0 F I B J np nm dn sd R z) (hx : x < np) (hz : gI (R 168) x = 0 → z x) : ∃ I' R', mX6_settle I F (nI x) = some I' ∧ RUN sp k h md D L B0 J0 F I' B J np nm dn sd R' z ∧ R' 168 = R 168 := by
  have H0 := H
  have h80 := run_80 H
  obtain ⟨s1, s2, s3, s4, s5, s6, s7, s8, Γ, ch, rl, dp, ow, Gt, Ht, q, mr, rk, t1, t2, t3, t4, t5, t6⟩ := H
  have hk := s4.1
  rcases (s6.2 x hx).1 with hal | hov
  · obtain ⟨f, e, u, κ, l, m, Q, Rn, Rc, a1, a2, a3, a4, a5, a6, a7, a8, a9, a10, a11, a12⟩ := t6 x hx hal
    refine ⟨I, R, ?_, H0, rfl⟩
    have hκ : κ < 2 ^ 31 := by
      have := (pr_m a5).2.2.1
      have := s1.2.2.2.2.2.2.2.2.1.2.1
      omega
    unfold mX6_settle
    show mX6_settle_2 (LF - 1 + 1) I F (nI x) 0 = _
    rw [mX6_settle_2, if_neg (by decide), rn_g s5 (by unfold rnA; omega) (by omega), sb, a3, s3, rk_g s4 (by unfold rkA; omega) hκ, sb, if_neg (a12 (hz hal)).2]
  · obtain ⟨I', R', c1, c2, c3, c4, c5⟩ := se_tot hk s1.2.2.2.1.2.2.2.2 s1.2.2.2.2.2.2.1.1 s3 (show x < 80 by omega) 250 0 (LF - 251) I R rfl s4 s5
    have e1 : LF - 251 + 250 + 1 = LF := by unfold LF; omega
    rw [e1] at c1
    refine ⟨I', R', c1, set_run s1 s2 s3 s4 s6 s7 s8 ⟨t1, t2, t3, t4, t5, t6⟩ c2 c3 c4 c5 s2.2.2.2.2 (fun _ _ _ _ _ => rfl) (fun _ _ h => h) (fun y _ => by rw [hov] at y; exact absurd y (by decide)), c4.1 168 (by omega)⟩
end
