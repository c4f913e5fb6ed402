/-! WHOLE Es, in both (pure) -/
section
variable {k h M n : Nat} {F : fT} {I0 B0 : iT} {J0 : jT} {L0 : lT} {bs : List Nat} {P0 md0 nest lv : Nat} {S : List Sl} {a6 a8 a0 : List Int32}
/-- sums -/
theorem xs_loop (R : sc_7readSumT) (R' : sc_12expressionT) {ρ ρ2 : Nat} (hρ : ρ2 + 1 ≤ ρ) (hF : F 147 2 = k + 18) (hr : ∀ (I B : iT) (J : jT) (L : lT) (t : Tok) (r : List Tok) (md : Nat), CR I B J bs t r → XS k h M n F I B J L t.2.2 md nest lv S a6 a8 a0 → XO k h M n F I B J L bs t.2.2 md nest lv S a6 a8 a0 ρ2 (R.1 I F (1 + 1) (nI nest)) (R'.2.1 B J)) :
    ∀ (c : Nat) (I1 B1 : iT) (J1 : jT) (r1 : Nat) (t : Tok) (r : List Tok) (i m1 m2 : Nat), t.2.2 + c = 1000 → i ≤ t.2.2 → c + 1 < m1 → c < m2 → XC k h M n F I0 B0 J0 L0 bs P0 md0 nest lv S a6 a8 a0 ρ I1 B1 J1 r1 t r → XOc k h M n F I0 B0 J0 L0 bs P0 md0 nest lv S a6 a8 a0 ρ (mX7_readSum_36 R m1 I1 F 1 (nI nest) (nI r1) 1000 (nI i)) (mX12_sum_9 R' m2 B1 J1) := by
  intro c
  induction c using Nat.strongRecOn with
  | _ c ih =>
    intro I1 B1 J1 r1 t r i m1 m2 hc hi hm1 hm2 H
    obtain ⟨m1, rfl⟩ : ∃ y, m1 = y + 1 := ⟨m1 - 1, by omega⟩
    obtain ⟨m2, rfl⟩ : ∃ y, m2 = y + 1 := ⟨m2 - 1, by omega⟩
    have hC : CR I1 B1 J1 bs t r := by obtain ⟨L', md', e, d, g1, _⟩ := H; exact g1
    have hw := (cr_wf hC).1
    have hk6 : I1 6 6 = nI t.1 := hC.1.2.1
    have s43 : mX12_isSign B1 43 = some (if t.1 = 43 then 1 else 0) := cr_sign hC 43 (by decide)
    have s45 : mX12_isSign B1 45 = some (if t.1 = 45 then 1 else 0) := cr_sign hC 45 (by decide)
    have hj := join_ok (rank := 1) (x := t.1) (by omega) hw
    by_cases q : t.1 = 43 ∨ t.1 = 45
    · obtain ⟨kd, w, hkw, hq, hw43⟩ : ∃ kd w, opk kd w ∧ t.1 = kd ∧ ((kd = 43 ∧ w = 23) ∨ (kd = 45 ∧ w = 24)) := by
        rcases q with q | q
        · exact ⟨43, 23, by unfold opk; omega, q, by omega⟩
        · exact ⟨45, 24, by unfold opk; omega, q, by omega⟩
      have hiN : i < 1000 := by
        obtain ⟨u0, r0, z1, z2, z3⟩ := tkl_more hC.2.2.1 (by omega)
        have := tkl_end r0 u0 z2
        have htl : tl t.1 = 1 := by rcases q with q | q <;> rw [q] <;> decide
        omega
      obtain ⟨I2, B2, J2, x, I3, v, B3, J3, e1, e2, e3, e4, HO⟩ := xb_ok hρ (kd := kd) (w := w) hkw (fun I => R.1 I F (1 + 1) (nI nest)) (fun B J => R'.2.1 B J) hr H hq
      have eR : mX12_sum_9 R' (m2 + 1) B1 J1 = (R'.2.1 B2 J2).bind fun q2 => if q2.1 = 0 then some (0, q2.2.1, q2.2.2) else (mX12_node q2.2.1 q2.2.2 (nI w) (B1 186 47) (q2.2.1 186 47) 0).bind fun q3 => mX12_sum_9 R' m2 (a_u2 q3.2.1 186 47 q3.1) q3.2.2 := by
        rw [mX12_sum_9, s43, sb]
        rcases hw43 with ⟨z1, z2⟩ | ⟨z1, z2⟩
        · subst z1
          subst z2
          rw [if_pos hq, if_neg i10]
          unfold mX12_sum_27
          rw [s43, if_pos hq, sb, if_neg i10]
          unfold mX12_sum_43
          rw [e2, sb]; rfl
        · subst z1
          subst z2
          rw [if_neg (show ¬ t.1 = 43 by omega), if_pos rfl, s45, if_pos hq, sb, if_neg i10]
          unfold mX12_sum_27
          rw [s43, if_neg (show ¬ t.1 = 43 by omega), sb, if_pos rfl]
          unfold mX12_sum_43
          rw [e2, sb]; rfl
      rw [hq] at hk6 hj
      have hj1 : mX7_joins (nI 1) (nI kd) = some 1 := by
        rw [hj, if_pos (by omega)]
      have ec := c36 (k := k) R hF m1 hk6 hj1 (nI nest) (nI r1) 1000 (i := i) (nI_ge (b := 1000) hiN (by omega))
      have ec' : mX7_readSum_36 R (m1 + 1) I1 F 1 (nI nest) (nI r1) 1000 (nI i) = (R.1 I2 F (1 + 1) (nI nest)).bind fun q3 => (mX2_failed q3.2).bind fun q4 => if q4 = 0 then (mX8_addNode (k + 18) q3.2 (nI kd) (nI r1) q3.1).bind fun q5 => mX7_readSum_36 R m1 q5.2 F 1 (nI nest) q5.1 1000 (nI i + 1) else mX7_readSum_36 R m1 q3.2 F 1 (nI nest) (-1) 1000 (nI i + 1) := by
        refine ec.trans ?_
        rw [e1, sb]; rfl
      rw [ec', eR]
      have e3' : R.1 I2 F (1 + 1) (nI nest) = some (x, I3) := e3
      have e4' : R'.2.1 B2 J2 = some (v, B3, J3) := e4
      rw [e3', sb, e4', sb]
      rcases HO with ⟨hv, hF'⟩ | ⟨hv, hf, root, en, I4, B4, J4, t', r', y1, y2, y3, y4⟩
      · subst hv
        obtain ⟨m1, rfl⟩ : ∃ y, m1 = y + 1 := ⟨m1 - 1, by omega⟩
        obtain ⟨x', I', a1, a2⟩ := fmo_FAIL hF' (o := (mX2_failed I3).bind fun q4 => if q4 = 0 then (mX8_addNode (k + 18) I3 (nI kd) (nI r1) x).bind fun q5 => mX7_readSum_36 R (m1 + 1) q5.2 F 1 (nI nest) q5.1 1000 (nI i + 1) else mX7_readSum_36 R (m1 + 1) I3 F 1 (nI nest) (-1) 1000 (nI i + 1)) (fun f p hf => by
          rw [fm_failed hf, sb, if_neg i10, fm_36 hf R m1 (by decide)]
          exact fmo_ret hf _)
        exact ⟨x', I', 0, B3, J3, a1, by rw [if_pos rfl], Or.inl ⟨rfl, a2⟩⟩
      · subst hv
        have hP' : t'.2.2 ≤ 1000 := by obtain ⟨L', md', e, d, g1, _⟩ := y3; exact cr_end g1
        rw [hf, sb, if_pos rfl, y1, sb, nI_1, if_neg i10]
        have := ih (1000 - t'.2.2) (by omega) I4 (a_u2 B4 186 47 (nI en)) J4 root t' r' (i + 1) m1 m2 (by omega) (by omega) (by omega) (by omega) y3
        rw [y2, sb]
        exact this
    · rw [mX7_readSum_36, mX12_sum_9, s43, if_neg (fun z => q (Or.inl z)), sb, if_pos rfl, s45, if_neg (fun z => q (Or.inr z)), sb, if_pos rfl]
      have hj0 : mX7_joins 1 (I1 6 6) = some 0 := by
        rw [hk6]
        have := hj
        rw [if_neg (by omega)] at this
        exact this
      refine ⟨nI r1, I1, 1, B1, J1, ?_, rfl, Or.inr ⟨rfl, r1, t, r, rfl, H⟩⟩
      rw [hj0]
      by_cases z : (1000 : Int32) ≤ nI i
      · rw [if_pos z]
      · rw [if_neg z, sb, if_pos rfl]
end
section
variable {k h M n : Nat} {F : fT} {I B : iT} {J : jT} {L : lT} {bs : List Nat} {t : Tok} {r : List Tok} {md nest lv : Nat} {S : List Sl} {a6 a8 a0 : List Int32}
theorem xoc_xo {P : Nat} {ρ : Nat} {oc : Option (Int32 × iT)} {or : Option (Int32 × iT × jT)} (H : XOc k h M n F I B J L bs P md nest lv S a6 a8 a0 ρ oc or) : XO k h M n F I B J L bs P md nest lv S a6 a8 a0 ρ oc or := by
  obtain ⟨x, I', v, B', J', e1, e2, HO⟩ := H
  refine ⟨x, I', v, B', J', e1, e2, ?_⟩
  rcases HO with h | ⟨h1, root, t', r', h2, h3⟩
  · exact Or.inl h
  · exact Or.inr ⟨h1, root, h2, xc_xg h3⟩
theorem xprod (R : sc_7readSumT) (R' : sc_12expressionT) {ρ : Nat} (hr : ∀ (I B : iT) (J : jT) (L : lT) (t : Tok) (r : List Tok) (md : Nat), CR I B J bs t r → XS k h M n F I B J L t.2.2 md nest lv S a6 a8 a0 → XO k h M n F I B J L bs t.2.2 md nest lv S a6 a8 a0 ρ (R.1 I F (2 + 1) (nI nest)) (R'.2.2.2 B J)) (hC : CR I B J bs t r) (H : XS k h M n F I B J L t.2.2 md nest lv S a6 a8 a0) :
    XO k h M n F I B J L bs t.2.2 md nest lv S a6 a8 a0 (ρ + 1) (bX7_readSum R I F 2 (nI nest)) (bX12_product R' B J) := by
  have hLF : LF = 99999 + 1 := rfl
  obtain ⟨x, I1, v, B1, J1, e1, e2, HO⟩ := hr I B J L t r md hC H
  have ec : bX7_readSum R I F 2 (nI nest) = mX7_readSum_36 R LF I1 F 2 (nI nest) x 1000 0 := by
    unfold bX7_readSum
    rw [if_pos (by decide), e1, sb, if_neg (by decide)]
    rfl
  rw [ec]
  unfold bX12_product
  rw [e2, sb]
  rcases HO with ⟨hv, hF⟩ | ⟨hv, root, hx, L', t', r', md', e, d, g⟩
  · subst hv
    obtain ⟨x', I', a1, a2⟩ := fmo_FAIL hF (o := mX7_readSum_36 R LF I1 F 2 (nI nest) x 1000 0) (fun f p hf => by
      rw [hLF, fm_36 hf R 99999 (by decide)]
      exact fmo_ret hf _)
    exact ⟨x', I', 0, B1, J1, a1, by rw [if_pos rfl], Or.inl ⟨rfl, a2⟩⟩
  · subst hv
    subst hx
    rw [if_neg i10]
    have hP' := cr_end g.1
    exact xoc_xo (xp_loop R R' (ρ := ρ + 1) (ρ2 := ρ) (Nat.le_refl _) H.2.1 hr (1000 - t'.2.2) I1 B1 J1 root t' r' 0 LF LF (by omega) (by omega) (by unfold LF; omega) (by unfold LF; omega) (xc_rho (by omega) ⟨L', md', e, d, g⟩))
theorem xsum (R : sc_7readSumT) (R' : sc_12expressionT) {ρ : Nat} (hr : ∀ (I B : iT) (J : jT) (L : lT) (t : Tok) (r : List Tok) (md : Nat), CR I B J bs t r → XS k h M n F I B J L t.2.2 md nest lv S a6 a8 a0 → XO k h M n F I B J L bs t.2.2 md nest lv S a6 a8 a0 ρ (R.1 I F (1 + 1) (nI nest)) (R'.2.1 B J)) (hC : CR I B J bs t r) (H : XS k h M n F I B J L t.2.2 md nest lv S a6 a8 a0) :
    XO k h M n F I B J L bs t.2.2 md nest lv S a6 a8 a0 (ρ + 1) (bX7_readSum R I F 1 (nI nest)) (bX12_sum R' B J) := by
  have hLF : LF = 99999 + 1 := rfl
  obtain ⟨x, I1, v, B1, J1, e1, e2, HO⟩ := hr I B J L t r md hC H
  have ec : bX7_readSum R I F 1 (nI nest) = mX7_readSum_36 R LF I1 F 1 (nI nest) x 1000 0 := by
    unfold bX7_readSum
    rw [if_pos (by decide), e1, sb, if_neg (by decide)]
    rfl
  rw [ec]
  unfold bX12_sum
  rw [e2, sb]
  rcases HO with ⟨hv, hF⟩ | ⟨hv, root, hx, L', t', r', md', e, d, g⟩
  · subst hv
    obtain ⟨x', I', a1, a2⟩ := fmo_FAIL hF (o := mX7_readSum_36 R LF I1 F 1 (nI nest) x 1000 0) (fun f p hf => by
      rw [hLF, fm_36 hf R 99999 (by decide)]
      exact fmo_ret hf _)
    exact ⟨x', I', 0, B1, J1, a1, by rw [if_pos rfl], Or.inl ⟨rfl, a2⟩⟩
  · subst hv
    subst hx
    rw [if_neg i10]
    have hP' := cr_end g.1
    exact xoc_xo (xs_loop R R' (ρ := ρ + 1) (ρ2 := ρ) (Nat.le_refl _) H.2.1 hr (1000 - t'.2.2) I1 B1 J1 root t' r' 0 LF LF (by omega) (by omega) (by unfold LF; omega) (by unfold LF; omega) (xc_rho (by omega) ⟨L', md', e, d, g⟩))
theorem xexpr (R : sc_7readSumT) (R' : sc_12expressionT) {ρ : Nat} (hr : ∀ (I B : iT) (J : jT) (L : lT) (t : Tok) (r : List Tok) (md : Nat), CR I B J bs t r → XS k h M n F I B J L t.2.2 md nest lv S a6 a8 a0 → XO k h M n F I B J L bs t.2.2 md nest lv S a6 a8 a0 ρ (R.1 I F (0 + 1) (nI nest)) (R'.2.2.1 B J)) (hC : CR I B J bs t r) (H : XS k h M n F I B J L t.2.2 md nest lv S a6 a8 a0) :
    XO k h M n F I B J L bs t.2.2 md nest lv S a6 a8 a0 (ρ + 1) (bX7_readSum R I F 0 (nI nest)) (bX12_expression R' B J) := by
  have hLF : LF = 99999 + 1 := rfl
  have hLF2 : LF = 99998 + 1 + 1 := rfl
  obtain ⟨x, I1, v, B1, J1, e1, e2, HO⟩ := hr I B J L t r md hC H
  have ec : bX7_readSum R I F 0 (nI nest) = mX7_readSum_36 R LF I1 F 0 (nI nest) x 1 0 := by
    unfold bX7_readSum
    rw [if_pos (by decide), e1, sb, if_pos rfl]
    rfl
  rw [ec]
  unfold bX12_expression
  rw [e2, sb]
  rcases HO with ⟨hv, hF⟩ | ⟨hv, root, hx, L', t', r', md', e, d, g⟩
  · subst hv
    obtain ⟨x', I', a1, a2⟩ := fmo_FAIL hF (o := mX7_readSum_36 R LF I1 F 0 (nI nest) x 1 0) (fun f p hf => by
      rw [hLF, fm_36 hf R 99999 (by decide)]
      exact fmo_ret hf _)
    exact ⟨x', I', 0, B1, J1, a1, by rw [if_pos rfl], Or.inl ⟨rfl, a2⟩⟩
  · subst hv
    subst hx
    rw [if_neg i10]
    have HX : XC k h M n F I B J L bs t.2.2 md nest lv S a6 a8 a0 (ρ + 1) I1 B1 J1 root t' r' := xc_rho (by omega) ⟨L', md', e, d, g⟩
    have hC1 := g.1
    have hw := (cr_wf hC1).1
    have hk6 : I1 6 6 = nI t'.1 := hC1.1.2.1
    have s60 : mX12_isSign B1 60 = some (if t'.1 = 60 then 1 else 0) := cr_sign hC1 60 (by decide)
    have r4 : B1 186 3 = 4 ↔ t'.1 = 258 := cr_r hC1 258 (by decide)
    have hj := join_ok (rank := 0) (x := t'.1) (by omega) hw
    by_cases q : t'.1 = 60 ∨ t'.1 = 258
    · obtain ⟨kd, w, hkw, hq, hw43⟩ : ∃ kd w, opk kd w ∧ t'.1 = kd ∧ ((kd = 60 ∧ w = 26) ∨ (kd = 258 ∧ w = 27)) := by
        rcases q with q | q
        · exact ⟨60, 26, by unfold opk; omega, q, by omega⟩
        · exact ⟨258, 27, by unfold opk; omega, q, by omega⟩
      obtain ⟨I2, B2, J2, x, I3, v, B3, J3, y1, y2, y3, y4, HO⟩ := xb_ok (Nat.le_refl (ρ + 1)) (kd := kd) (w := w) hkw (fun I => R.1 I F (0 + 1) (nI nest)) (fun B J => R'.2.2.1 B J) hr HX hq
      have eR : ((mX12_isSign B1 60).bind fun q5 => if q5 = 0 then if B1 186 3 = 4 then mX12_expression_28 R' B1 J1 else some (1, B1, J1) else mX12_expression_28 R' B1 J1) = (R'.2.2.1 B2 J2).bind fun q2 => if q2.1 = 0 then some (0, q2.2.1, q2.2.2) else (mX12_node q2.2.1 q2.2.2 (nI w) (B1 186 47) (q2.2.1 186 47) 0).bind fun q3 => some (1, a_u2 q3.2.1 186 47 q3.1, q3.2.2) := by
        rw [s60, sb]
        rcases hw43 with ⟨z1, z2⟩ | ⟨z1, z2⟩
        · subst z1
          subst z2
          rw [if_pos hq, if_neg i10]
          unfold mX12_expression_28
          rw [if_neg (fun z => by have := r4.mp z; omega)]
          unfold mX12_expression_43
          rw [y2, sb]; rfl
        · subst z1
          subst z2
          rw [if_neg (show ¬ t'.1 = 60 by omega), if_pos rfl, if_pos (r4.mpr hq)]
          unfold mX12_expression_28
          rw [if_pos (r4.mpr hq)]
          unfold mX12_expression_43
          rw [y2, sb]; rfl
      rw [hq] at hk6 hj
      have hj1 : mX7_joins (nI 0) (nI kd) = some 1 := by rw [hj, if_pos (by omega)]
      have ecc := c36 (k := k) R H.2.1 99999 hk6 hj1 (nI nest) (nI root) 1 (i := 0) (by decide)
      have ec' : mX7_readSum_36 R LF I1 F 0 (nI nest) (nI root) 1 0 = (R.1 I2 F (0 + 1) (nI nest)).bind fun q3 => (mX2_failed q3.2).bind fun q4 => if q4 = 0 then (mX8_addNode (k + 18) q3.2 (nI kd) (nI root) q3.1).bind fun q5 => mX7_readSum_36 R (99998 + 1) q5.2 F 0 (nI nest) q5.1 1 (nI 0 + 1) else mX7_readSum_36 R (99998 + 1) q3.2 F 0 (nI nest) (-1) 1 (nI 0 + 1) := by
        refine ecc.trans ?_
        rw [y1, sb]; rfl
      have hstop : ∀ I x3, mX7_readSum_36 R (99998 + 1) I F 0 (nI nest) x3 1 (nI 0 + 1) = some (x3, I) := by
        intro I x3
        rw [mX7_readSum_36, if_pos (by decide)]
      rw [ec']
      show XO k h M n F I B J L bs t.2.2 md nest lv S a6 a8 a0 (ρ + 1) _ ((mX12_isSign B1 60).bind fun q5 => if q5 = 0 then if B1 186 3 = 4 then mX12_expression_28 R' B1 J1 else some (1, B1, J1) else mX12_expression_28 R' B1 J1)
      rw [eR]
      have y3' : R.1 I2 F (0 + 1) (nI nest) = some (x, I3) := y3
      have y4' : R'.2.2.1 B2 J2 = some (v, B3, J3) := y4
      rw [y3', sb, y4', sb]
      rcases HO with ⟨hv, hF'⟩ | ⟨hv, hf, root', en, I4, B4, J4, t2, r2, u1, u2, u3, u4⟩
      · subst hv
        obtain ⟨x', I', a1, a2⟩ := fmo_FAIL hF' (o := (mX2_failed I3).bind fun q4 => if q4 = 0 then (mX8_addNode (k + 18) I3 (nI kd) (nI root) x).bind fun q5 => mX7_readSum_36 R (99998 + 1) q5.2 F 0 (nI nest) q5.1 1 (nI 0 + 1) else mX7_readSum_36 R (99998 + 1) I3 F 0 (nI nest) (-1) 1 (nI 0 + 1)) (fun f p hf => by
          rw [fm_failed hf, sb, if_neg i10, hstop]
          exact fmo_ret hf _)
        exact ⟨x', I', 0, B3, J3, a1, by rw [if_pos rfl], Or.inl ⟨rfl, a2⟩⟩
      · subst hv
        rw [hf, sb, if_pos rfl, u1, sb, hstop, if_neg i10, u2, sb]
        exact ⟨nI root', I4, 1, _, _, rfl, rfl, Or.inr ⟨rfl, root', rfl, xc_xg u3⟩⟩
    · have hj0 : mX7_joins 0 (I1 6 6) = some 0 := by
        rw [hk6]
        have := hj
        rw [if_neg (by omega)] at this
        exact this
      refine ⟨nI root, I1, 1, B1, J1, ?_, ?_, Or.inr ⟨rfl, root, rfl, xc_xg HX⟩⟩
      · rw [hLF, mX7_readSum_36, if_neg (by decide), hj0, sb, if_pos rfl]
      · show ((mX12_isSign B1 60).bind fun q5 => if q5 = 0 then if B1 186 3 = 4 then mX12_expression_28 R' B1 J1 else some (1, B1, J1) else mX12_expression_28 R' B1 J1) = _
        rw [s60, if_neg (fun z => q (Or.inl z)), sb, if_pos rfl, if_neg (fun z => q (Or.inr (r4.mp z)))]
/-- class and reference read every E alike -/
theorem xe_ok : ∀ (d nest : Nat), nest + d = 8 → (∀ (n1 n2 : Nat), 5 * d + 1 ≤ n1 → 4 * d + 1 ≤ n2 → ∀ (I B : iT) (J : jT) (L : lT) (t : Tok) (r : List Tok) (md : Nat), CR I B J bs t r → XS k h M n F I B J L t.2.2 md nest lv S a6 a8 a0 → XO k h M n F I B J L bs t.2.2 md nest lv S a6 a8 a0 (1 + 3 * d) (mX7_readUnit n1 I F (nI nest)) (mX12_unit n2 B J)) ∧ (∀ (n1 n2 : Nat), 5 * d + 5 ≤ n1 → 4 * d + 4 ≤ n2 → ∀ (I B : iT) (J : jT) (L : lT) (t : Tok) (r : List Tok) (md : Nat), CR I B J bs t r → XS k h M n F I B J L t.2.2 md nest lv S a6 a8 a0 → XO k h M n F I B J L bs t.2.2 md nest lv S a6 a8 a0 (1 + 3 * d + 3) (mX7_readSum n1 I F 0 (nI nest)) (mX12_expression n2 B J)) := by
  intro d
  induction d with
  | zero =>
    intro nest hd
    have hU : ∀ (n1 n2 : Nat), 5 * 0 + 1 ≤ n1 → 4 * 0 + 1 ≤ n2 → ∀ (I B : iT) (J : jT) (L : lT) (t : Tok) (r : List Tok) (md : Nat), CR I B J bs t r → XS k h M n F I B J L t.2.2 md nest lv S a6 a8 a0 → XO k h M n F I B J L bs t.2.2 md nest lv S a6 a8 a0 (1 + 3 * 0) (mX7_readUnit n1 I F (nI nest)) (mX12_unit n2 B J) := by
      intro n1 n2 h1 h2 I B J L t r md hC H
      obtain ⟨n1, rfl⟩ : ∃ y, n1 = y + 1 := ⟨n1 - 1, by omega⟩
      obtain ⟨n2, rfl⟩ : ∃ y, n2 = y + 1 := ⟨n2 - 1, by omega⟩
      exact xu_ok (sc_7readSum n1) (sc_12expression n2) (ρ1 := 0) (by omega) (by omega) (fun z => by omega) (fun z => by omega) hC H
    refine ⟨hU, ?_⟩
    intro n1 n2 h1 h2 I B J L t r md hC H
    obtain ⟨n1, rfl⟩ : ∃ y, n1 = y + 1 + 1 + 1 + 1 := ⟨n1 - 4, by omega⟩
    obtain ⟨n2, rfl⟩ : ∃ y, n2 = y + 1 + 1 + 1 := ⟨n2 - 3, by omega⟩
    refine xexpr (sc_7readSum (n1 + 1 + 1 + 1)) (sc_12expression (n2 + 1 + 1)) (ρ := 1 + 3 * 0 + 2) (fun I B J L t r md hC H => ?_) hC H
    refine xsum (sc_7readSum (n1 + 1 + 1)) (sc_12expression (n2 + 1)) (ρ := 1 + 3 * 0 + 1) (fun I B J L t r md hC H => ?_) hC H
    refine xprod (sc_7readSum (n1 + 1)) (sc_12expression n2) (ρ := 1 + 3 * 0) (fun I B J L t r md hC H => ?_) hC H
    have e3 : (sc_7readSum (n1 + 1)).1 I F (2 + 1) (nI nest) = mX7_readUnit n1 I F (nI nest) := by
      show bX7_readSum (sc_7readSum n1) I F (2 + 1) (nI nest) = _
      unfold bX7_readSum
      rw [if_neg (by decide)]
      exact pair_id _
    rw [e3]
    exact hU n1 n2 (by omega) (by omega) I B J L t r md hC H
  | succ d ih =>
    intro nest hd
    obtain ⟨ihU, ihE⟩ := ih (nest + 1) (by omega)
    have hU : ∀ (n1 n2 : Nat), 5 * (d + 1) + 1 ≤ n1 → 4 * (d + 1) + 1 ≤ n2 → ∀ (I B : iT) (J : jT) (L : lT) (t : Tok) (r : List Tok) (md : Nat), CR I B J bs t r → XS k h M n F I B J L t.2.2 md nest lv S a6 a8 a0 → XO k h M n F I B J L bs t.2.2 md nest lv S a6 a8 a0 (1 + 3 * (d + 1)) (mX7_readUnit n1 I F (nI nest)) (mX12_unit n2 B J) := by
      intro n1 n2 h1 h2 I B J L t r md hC H
      obtain ⟨n1, rfl⟩ : ∃ y, n1 = y + 1 := ⟨n1 - 1, by omega⟩
      obtain ⟨n2, rfl⟩ : ∃ y, n2 = y + 1 := ⟨n2 - 1, by omega⟩
      refine xu_ok (sc_7readSum n1) (sc_12expression n2) (ρ1 := 1 + 3 * d) (by omega) (by omega) (fun _ I B J L t r md hC H => ihU n1 n2 (by omega) (by omega) I B J L t r md hC H) (fun _ I B J L t r md hC H => ?_) hC H
      have := ihE n1 n2 (by omega) (by omega) I B J L t r md hC H
      rw [show 1 + 3 * d + 3 = 1 + 3 * (d + 1) by omega] at this
      exact this
    refine ⟨hU, ?_⟩
    intro n1 n2 h1 h2 I B J L t r md hC H
    obtain ⟨n1, rfl⟩ : ∃ y, n1 = y + 1 + 1 + 1 + 1 := ⟨n1 - 4, by omega⟩
    obtain ⟨n2, rfl⟩ : ∃ y, n2 = y + 1 + 1 + 1 := ⟨n2 - 3, by omega⟩
    refine xexpr (sc_7readSum (n1 + 1 + 1 + 1)) (sc_12expression (n2 + 1 + 1)) (ρ := 1 + 3 * (d + 1) + 2) (fun I B J L t r md hC H => ?_) hC H
    refine xsum (sc_7readSum (n1 + 1 + 1)) (sc_12expression (n2 + 1)) (ρ := 1 + 3 * (d + 1) + 1) (fun I B J L t r md hC H => ?_) hC H
    refine xprod (sc_7readSum (n1 + 1)) (sc_12expression n2) (ρ := 1 + 3 * (d + 1)) (fun I B J L t r md hC H => ?_) hC H
    have e3 : (sc_7readSum (n1 + 1)).1 I F (2 + 1) (nI nest) = mX7_readUnit n1 I F (nI nest) := by
      show bX7_readSum (sc_7readSum n1) I F (2 + 1) (nI nest) = _
      unfold bX7_readSum
      rw [if_neg (by decide)]
      exact pair_id _
    rw [e3]
    exact hU n1 n2 (by omega) (by omega) I B J L t r md hC H
/-- an E as the readers call it -/
theorem x_all (hC : CR I B J bs t r) (H : XS k h M n F I B J L t.2.2 md nest lv S a6 a8 a0) : XO k h M n F I B J L bs t.2.2 md nest lv S a6 a8 a0 28 (mX7_readSum SF I F 0 (nI nest)) (mX12_expression SF B J) := by
  have hn := H.2.2.2.2.2.2.1.2
  have := (xe_ok (k := k) (h := h) (M := M) (n := n) (F := F) (bs := bs) (lv := lv) (S := S) (a6 := a6) (a8 := a8) (a0 := a0) (8 - nest) nest (by omega)).2 SF SF (by unfold SF; omega) (by unfold SF; omega) I B J L t r md hC H
  obtain ⟨x, I', v, B', J', e1, e2, HO⟩ := this
  refine ⟨x, I', v, B', J', e1, e2, ?_⟩
  rcases HO with h1 | ⟨h1, root, h2, L', t', r', md', e, d, g1, g2, g3, g4, g5⟩
  · exact Or.inl h1
  · exact Or.inr ⟨h1, root, h2, L', t', r', md', e, d, g1, g2, g3, er_to g2.2.2.2.1 SE.rfl (fun v _ => ⟨rfl, rfl, rfl⟩) (fun v hv => hv) _ _ _ _ _ _ _ (Nat.le_refl _) (by omega) g4, g5⟩
end
