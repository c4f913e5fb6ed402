/-! SIGNS BETWEEN UNITS, whole Es, in both (pure) -/
theorem join_ok {rank x : Nat} (hr : rank < 3) (hx : x ≤ 316) : mX7_joins (nI rank) (nI x) = some (if (rank = 0 ∧ (x = 60 ∨ x = 258)) ∨ (rank = 1 ∧ (x = 43 ∨ x = 45)) ∨ (rank = 2 ∧ x = 42) then 1 else 0) := (by decide +kernel : ∀ rank, rank < 3 → ∀ x, x < 317 → mX7_joins (nI rank) (nI x) = some (if (rank = 0 ∧ (x = 60 ∨ x = 258)) ∨ (rank = 1 ∧ (x = 43 ∨ x = 45)) ∨ (rank = 2 ∧ x = 42) then 1 else 0)) rank hr x (by omega)
section
variable {k h M n : Nat} {F : fT} {I0 B0 : iT} {J0 : jT} {L0 : lT} {bs : List Nat} {P0 md0 nest lv : Nat} {S : List Sl} {a6 a8 a0 : List Int32}
/-- behind a left part: its cursors, state -/
def XC (k h M n : Nat) (F : fT) (I0 B0 : iT) (J0 : jT) (L0 : lT) (bs : List Nat) (P0 md0 nest lv : Nat) (S : List Sl) (a6 a8 a0 : List Int32) (ρ : Nat) (I' B' : iT) (J' : jT) (root : Nat) (t' : Tok) (r' : List Tok) : Prop :=
  ∃ L' md' e d, CR I' B' J' bs t' r' ∧ XS k h M n F I' B' J' L' t'.2.2 md' nest lv S a6 a8 a0 ∧ root + 1 = (L' (k + 19)).length ∧ ER k n (nsS S) L' B' (fun v => 1400 * h + md0 ≤ v ∧ v < 1400 * h + md') d e root (L0 (k + 19)).length ρ ∧ B' 186 47 = nI e ∧ SE k L0 L' ∧ (∀ a, ¬ (k + 19 ≤ a ∧ a ≤ k + 27) → L' a = L0 a) ∧ md0 ≤ md' ∧ (L' (k + 19)).length + P0 ≤ (L0 (k + 19)).length + t'.2.2 ∧ md' + P0 ≤ md0 + t'.2.2 ∧ P0 < t'.2.2 ∧ cS k I0 I' ∧ rS h md0 B0 J0 B' J'
theorem xc_xg {ρ : Nat} {I' B' : iT} {J' : jT} {root : Nat} {t' : Tok} {r' : List Tok} (H : XC k h M n F I0 B0 J0 L0 bs P0 md0 nest lv S a6 a8 a0 ρ I' B' J' root t' r') : XG k h M n F I0 B0 J0 L0 bs P0 md0 nest lv S a6 a8 a0 ρ I' B' J' root := by
  obtain ⟨L', md', e, d, g⟩ := H
  exact ⟨L', t', r', md', e, d, g⟩
/-- a wider right depth -/
theorem xc_rho {ρ ρ' : Nat} (hρ : ρ ≤ ρ') {I' B' : iT} {J' : jT} {root : Nat} {t' : Tok} {r' : List Tok} (H : XC k h M n F I0 B0 J0 L0 bs P0 md0 nest lv S a6 a8 a0 ρ I' B' J' root t' r') : XC k h M n F I0 B0 J0 L0 bs P0 md0 nest lv S a6 a8 a0 ρ' I' B' J' root t' r' := by
  obtain ⟨L', md', e, d, g1, g2, g3, g4, g5⟩ := H
  exact ⟨L', md', e, d, g1, g2, g3, er_to g2.2.2.2.1 SE.rfl (fun v _ => ⟨rfl, rfl, rfl⟩) (fun v hv => hv) _ _ _ _ _ _ _ (Nat.le_refl _) hρ g4, g5⟩
/-- a sign and what is behind it -/
theorem xb_ok {ρ ρ2 : Nat} (hρ : ρ2 + 1 ≤ ρ) {kd w : Nat} (hkw : opk kd w) (Rc : iT → Option (Int32 × iT)) (Rr : iT → jT → Option (Int32 × iT × jT)) (hr : ∀ (I B : iT) (J : jT) (L : lT) (t : Tok) (r : List Tok) (md : Nat), CR I B J bs t r → XS k h M n F I B J L t.2.2 md nest lv S a6 a8 a0 → XO k h M n F I B J L bs t.2.2 md nest lv S a6 a8 a0 ρ2 (Rc I) (Rr B J)) {I1 B1 : iT} {J1 : jT} {r1 : Nat} {t : Tok} {r : List Tok} (H : XC k h M n F I0 B0 J0 L0 bs P0 md0 nest lv S a6 a8 a0 ρ I1 B1 J1 r1 t r) (q : t.1 = kd) :
    ∃ I2 B2 J2 x I3 v B3 J3, mX2_advance I1 = some I2 ∧ mX12_look0 B1 J1 = some (B2, J2) ∧ Rc I2 = some (x, I3) ∧ Rr B2 J2 = some (v, B3, J3) ∧ ((v = 0 ∧ FAIL k h I0 B0 J0 I3 B3 J3) ∨ (v = 1 ∧ mX2_failed I3 = some 0 ∧ ∃ root e4 I4 B4 J4 t' r', mX8_addNode (k + 18) I3 (nI kd) (nI r1) x = some (nI root, I4) ∧ mX12_node B3 J3 (nI w) (B1 186 47) (B3 186 47) 0 = some (nI e4, B4, J4) ∧ XC k h M n F I0 B0 J0 L0 bs P0 md0 nest lv S a6 a8 a0 ρ I4 (a_u2 B4 186 47 (nI e4)) J4 root t' r' ∧ t.2.2 + 1 ≤ t'.2.2)) := by
  obtain ⟨L1, md1, e1, d1, g1, g2, g3, g4, g5, g6, g7, g8, g9, g10, g11, g12, g13⟩ := H
  have hkd : kd ≠ 260 ∧ 1 ≤ tl kd := by
    unfold opk at hkw
    rcases hkw with ⟨z, _⟩ | ⟨z, _⟩ | ⟨z, _⟩ | ⟨z, _⟩ | ⟨z, _⟩ <;> subst z <;> decide
  obtain ⟨u, r', I2, B2, J2, k1, k2, k3, k4, k5, k6, k7⟩ := jadv g1 (by omega)
  rw [q] at k5
  have H2 := xs_cur g2 k6 k7 (P' := u.2.2) (by omega)
  obtain ⟨x, I3, v, B3, J3, e2, e3, HO⟩ := hr I2 B2 J2 L1 u r' md1 k4 H2
  refine ⟨I2, B2, J2, x, I3, v, B3, J3, k2, k3, e2, e3, ?_⟩
  rcases HO with ⟨hv, hF⟩ | ⟨hv, root2, hx, L3, t3, r3, md3, ee, d3, y1, y2, y3, y4, y5, y6, y7, y8, y9, y10, y11, y12, y13⟩
  · exact Or.inl ⟨hv, FAIL.pre ((cS_FX g12).trans (cf_FX k6)) ((rS_RX g13).trans (rf_RX k7)) hF⟩
  · right
    subst hx
    have hh := g2.2.2.2.2.1.1
    have hk := g2.1.1
    have bb1 := g2.2.2.2.2.2.2.2.1
    have bb2 := g2.2.2.2.2.2.2.2.2
    have bb3 := y2.2.2.2.2.2.2.2.2
    have rS23 : rS h md1 B1 J1 B3 J3 := (rf_rS k7).trans y13 (Nat.le_refl _)
    have hE1 : ER k n (nsS S) L3 B3 (fun v => 1400 * h + md0 ≤ v ∧ v < 1400 * h + md3) d1 e1 r1 (L0 (k + 19)).length ρ := er_to g2.2.2.2.1 y6 (fun v hv => ⟨rS23.1 _ _ (by omega) (by omega), rS23.1 _ _ (by omega) (by omega), rS23.1 _ _ (by omega) (by omega)⟩) (fun v hv => ⟨hv.1, by omega⟩) _ _ _ _ _ _ _ (Nat.le_refl _) (Nat.le_refl _) g4
    have hE2 : ER k n (nsS S) L3 B3 (fun v => 1400 * h + md0 ≤ v ∧ v < 1400 * h + md3) d3 ee root2 (r1 + 1) ρ2 := by
      rw [g3]
      exact er_to y2.2.2.2.1 SE.rfl (fun v _ => ⟨rfl, rfl, rfl⟩) (fun v hv => ⟨by omega, hv.2⟩) _ _ _ _ _ _ _ (Nat.le_refl _) (Nat.le_refl _) y4
    obtain ⟨I4, B4, J4, m1, m2, m3, m4, m5, m6, m7, m8, m9, m10⟩ := xn_ok y1 y2 _ (fun v hv => hv.2) hE1 (by omega) (by omega) (nI kd) (nI root2) (nI e1) (nI ee) (nI w)
    have hlen : (adS k L3 (nI kd) (nI r1) (nI root2) (nI (L0 (k + 19)).length) (k + 19)).length = (L3 (k + 19)).length + 1 := by rw [adS_19]; simp
    obtain ⟨l1, l2, l3, l4⟩ := y2.2.2.2.1
    have eu1 := er_u hE1
    have eu2 := er_u hE2
    refine ⟨hv, cr_failed y1, (L3 (k + 19)).length, 1400 * h + md3, I4, B4, J4, t3, r3, m1, by rw [g5, y5]; exact m2, ⟨adS k L3 (nI kd) (nI r1) (nI root2) (nI (L0 (k + 19)).length), md3 + 1, 1400 * h + md3, (d1 + d3) + 1, m3, m4, by rw [hlen], ?_, a_u2_s _ _ _ _, (g6.trans y6).trans (adS_SE _ _ _ _), fun a z => by rw [adS_n _ _ _ _ (by omega), y7 a z, g7 a z], by omega, by rw [hlen]; omega, by omega, by omega, g12.trans ((cf_cS k6).trans (y12.trans m5)), (g13.trans rS23 g8).trans m6 (by omega)⟩, by omega⟩
    refine ⟨by have := cr_end y1; omega, ⟨by omega, by omega⟩, by rw [hlen]; omega, by omega, ?_, by omega, Or.inr (Or.inr (Or.inr ⟨kd, w, e1, r1, ee, root2, ρ2, hkw, m7, m8, m9, ?_, ?_, ?_, by omega, hρ, ?_, ?_⟩))⟩
    · rw [adS_25, ← l3]; exact gI_e _ _
    · rw [adS_19]; exact gI_e _ _
    · rw [adS_21, ← l1]; exact gI_e _ _
    · rw [adS_23, ← l2]; exact gI_e _ _
    · exact er_to y2.2.2.2.1 (adS_SE _ _ _ _) (fun v hv => m10 v (by omega)) (fun v hv => ⟨hv.1, by omega⟩) _ _ _ _ _ _ _ (by omega) (Nat.le_refl _) hE1
    · exact er_to y2.2.2.2.1 (adS_SE _ _ _ _) (fun v hv => m10 v (by omega)) (fun v hv => ⟨hv.1, by omega⟩) _ _ _ _ _ _ _ (by omega) (Nat.le_refl _) hE2
/-- the outcome behind a left part -/
def XOc (k h M n : Nat) (F : fT) (I0 B0 : iT) (J0 : jT) (L0 : lT) (bs : List Nat) (P0 md0 nest lv : Nat) (S : List Sl) (a6 a8 a0 : List Int32) (ρ : Nat) (oc : Option (Int32 × iT)) (or : Option (Int32 × iT × jT)) : Prop :=
  ∃ x I' v B' J', oc = some (x, I') ∧ or = some (v, B', J') ∧ ((v = 0 ∧ FAIL k h I0 B0 J0 I' B' J') ∨ (v = 1 ∧ ∃ root t' r', x = nI root ∧ XC k h M n F I0 B0 J0 L0 bs P0 md0 nest lv S a6 a8 a0 ρ I' B' J' root t' r'))
/-- one turn of the class's loop behind a sign that joins -/
theorem c36 (R : sc_7readSumT) (hF : F 147 2 = k + 18) (m : Nat) {I : iT} {rank kd i : Nat} (hk6 : I 6 6 = nI kd) (hj : mX7_joins (nI rank) (nI kd) = some 1) (x2 x3 x4 : Int32) (hi : ¬ x4 ≤ nI i) : mX7_readSum_36 R (m + 1) I F (nI rank) x2 x3 x4 (nI i) = (mX2_advance I).bind fun q2 => (R.1 q2 F (nI rank + 1) x2).bind fun q3 => (mX2_failed q3.2).bind fun q4 => if q4 = 0 then (mX8_addNode (k + 18) q3.2 (nI kd) x3 q3.1).bind fun q5 => mX7_readSum_36 R m q5.2 F (nI rank) x2 q5.1 x4 (nI i + 1) else mX7_readSum_36 R m q3.2 F (nI rank) x2 (-1) x4 (nI i + 1) := by
  rw [mX7_readSum_36, if_neg hi, hk6, hj, sb, if_neg i10, hF]
  rfl
/-- products -/
theorem xp_loop (R : sc_7readSumT) (R' : sc_12expressionT) {ρ ρ2 : Nat} (hρ : ρ2 + 1 ≤ ρ) (hF : F 147 2 = k + 18) (hr : ∀ (I B : iT) (J : jT) (L : lT) (t : Tok) (r : List Tok) (md : Nat), CR I B J bs t r → XS k h M n F I B J L t.2.2 md nest lv S a6 a8 a0 → XO k h M n F I B J L bs t.2.2 md nest lv S a6 a8 a0 ρ2 (R.1 I F (2 + 1) (nI nest)) (R'.2.2.2 B J)) :
    ∀ (c : Nat) (I1 B1 : iT) (J1 : jT) (r1 : Nat) (t : Tok) (r : List Tok) (i m1 m2 : Nat), t.2.2 + c = 1000 → i ≤ t.2.2 → c + 1 < m1 → c < m2 → XC k h M n F I0 B0 J0 L0 bs P0 md0 nest lv S a6 a8 a0 ρ I1 B1 J1 r1 t r → XOc k h M n F I0 B0 J0 L0 bs P0 md0 nest lv S a6 a8 a0 ρ (mX7_readSum_36 R m1 I1 F 2 (nI nest) (nI r1) 1000 (nI i)) (mX12_product_9 R' m2 B1 J1) := by
  intro c
  induction c using Nat.strongRecOn with
  | _ c ih =>
    intro I1 B1 J1 r1 t r i m1 m2 hc hi hm1 hm2 H
    obtain ⟨m1, rfl⟩ : ∃ y, m1 = y + 1 := ⟨m1 - 1, by omega⟩
    obtain ⟨m2, rfl⟩ : ∃ y, m2 = y + 1 := ⟨m2 - 1, by omega⟩
    have hC : CR I1 B1 J1 bs t r := by obtain ⟨L', md', e, d, g1, _⟩ := H; exact g1
    have hw := (cr_wf hC).1
    have hk6 : I1 6 6 = nI t.1 := hC.1.2.1
    have hsg : mX12_isSign B1 42 = some (if t.1 = 42 then 1 else 0) := cr_sign hC 42 (by decide)
    have hj := join_ok (rank := 2) (x := t.1) (by omega) hw
    by_cases q : t.1 = 42
    · have hiN : i < 1000 := by
        obtain ⟨u0, r0, z1, z2, z3⟩ := tkl_more hC.2.2.1 (by omega)
        have := tkl_end r0 u0 z2
        have htl : tl t.1 = 1 := by rw [q]; decide
        omega
      obtain ⟨I2, B2, J2, x, I3, v, B3, J3, e1, e2, e3, e4, HO⟩ := xb_ok hρ (kd := 42) (w := 25) (by unfold opk; omega) (fun I => R.1 I F (2 + 1) (nI nest)) (fun B J => R'.2.2.2 B J) hr H q
      rw [q] at hk6 hj
      have hj1 : mX7_joins (nI 2) (nI 42) = some 1 := by decide
      have ec := c36 (k := k) R hF m1 hk6 hj1 (nI nest) (nI r1) 1000 (i := i) (nI_ge (b := 1000) hiN (by omega))
      have ec' : mX7_readSum_36 R (m1 + 1) I1 F 2 (nI nest) (nI r1) 1000 (nI i) = (R.1 I2 F (2 + 1) (nI nest)).bind fun q3 => (mX2_failed q3.2).bind fun q4 => if q4 = 0 then (mX8_addNode (k + 18) q3.2 (nI 42) (nI r1) q3.1).bind fun q5 => mX7_readSum_36 R m1 q5.2 F 2 (nI nest) q5.1 1000 (nI i + 1) else mX7_readSum_36 R m1 q3.2 F 2 (nI nest) (-1) 1000 (nI i + 1) := by
        refine ec.trans ?_
        rw [e1, sb]; rfl
      rw [ec', mX12_product_9, hsg, if_pos q, sb, if_neg i10, e2, sb]
      have e3' : R.1 I2 F (2 + 1) (nI nest) = some (x, I3) := e3
      have e4' : R'.2.2.2 B2 J2 = some (v, B3, J3) := e4
      rw [e3', sb, e4', sb]
      rcases HO with ⟨hv, hF'⟩ | ⟨hv, hf, root, en, I4, B4, J4, t', r', y1, y2, y3, y4⟩
      · subst hv
        obtain ⟨m1, rfl⟩ : ∃ y, m1 = y + 1 := ⟨m1 - 1, by omega⟩
        obtain ⟨x', I', a1, a2⟩ := fmo_FAIL hF' (o := (mX2_failed I3).bind fun q4 => if q4 = 0 then (mX8_addNode (k + 18) I3 (nI 42) (nI r1) x).bind fun q5 => mX7_readSum_36 R (m1 + 1) q5.2 F 2 (nI nest) q5.1 1000 (nI i + 1) else mX7_readSum_36 R (m1 + 1) I3 F 2 (nI nest) (-1) 1000 (nI i + 1)) (fun f p hf => by
          rw [fm_failed hf, sb, if_neg i10, fm_36 hf R m1 (by decide)]
          exact fmo_ret hf _)
        exact ⟨x', I', 0, B3, J3, a1, by rw [if_pos rfl], Or.inl ⟨rfl, a2⟩⟩
      · subst hv
        have hP' : t'.2.2 ≤ 1000 := by obtain ⟨L', md', e, d, g1, _⟩ := y3; exact cr_end g1
        rw [hf, sb, if_pos rfl, y1, sb, nI_1, if_neg i10]
        have y2' : mX12_node B3 J3 25 (B1 186 47) (B3 186 47) 0 = some (nI en, B4, J4) := y2
        have := ih (1000 - t'.2.2) (by omega) I4 (a_u2 B4 186 47 (nI en)) J4 root t' r' (i + 1) m1 m2 (by omega) (by omega) (by omega) (by omega) y3
        rw [y2', sb]
        exact this
    · rw [mX7_readSum_36, mX12_product_9, hsg, if_neg q, sb, if_pos rfl]
      have hj0 : mX7_joins 2 (I1 6 6) = some 0 := by
        rw [hk6]
        have := hj
        rw [if_neg (by omega)] at this
        exact this
      refine ⟨nI r1, I1, 1, B1, J1, ?_, rfl, Or.inr ⟨rfl, r1, t, r, rfl, H⟩⟩
      rw [hj0]
      by_cases z : (1000 : Int32) ≤ nI i
      · rw [if_pos z]
      · rw [if_neg z, sb, if_pos rfl]
end
