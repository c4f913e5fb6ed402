/-! A STATEMENT THAT GOES ON, and what comes behind it (pure) -/
section
variable {k h M n : Nat} {D : List Df} {F : fT} {I B : iT} {J : jT} {L : lT} {bs : List Nat} {t : Tok} {r : List Tok} {P md nest wd b z : Nat} {S : List Sl} {a6 a8 a0 : List Int32} {x1 x2 : Int32} {u : Nat}
theorem pe_scp2 (H : PS k h M n D F I B J L P md nest S a6 a8 a0 wd b z) : SCP b I := ps_scp H
theorem lp_go {R : sc_3readAlternativeT} {R' : sc_12actT} {m1 m2 c wd1 : Nat} {x4 w : Int32} (hx4 : ¬ (x4 = 115 ∨ x4 = 108 ∨ x4 = 111 ∨ x4 = 110 ∨ x4 = 112)) {I1 B1 : iT} (hcw : cW k I I1) (hrp : rP h md nest B J B1 J) (hwd : wd + 1 ≤ wd1) {oc : Option iT} {or : Option (Int32 × iT × jT)} (ho : SO k h M n D F I1 B1 J L bs P md nest S a6 a8 a0 wd1 b oc or) (hX : X12 h M md x1 x2) (hM : M ≤ 1400 * h + md) (hh : h < 2) (hb : b ≤ 9000) (hK : ∀ f p b I x1 x2, PF k f p b I → mX3_readSteps_2 R m1 I F x1 x2 = some (-1, I))
    (hrec : ∀ (I B : iT) (J : jT) (L : lT) (t : Tok) (r : List Tok) (md : Nat) (S : List Sl) (a6 a8 a0 : List Int32) (x1 x2 : Int32), CR I B J bs t r → PS k h M n D F I B J L t.2.2 md nest S a6 a8 a0 wd1 b 0 → X12 h M md x1 x2 → LO k h M n D F I B J L bs t.2.2 md nest S a6 a8 a0 wd1 b x1 x2 (c + 1) (mX3_readSteps_2 R m1 I F (nI nest) (nI (c + 1 + 1))) (mX12_readProcess_6 R' m2 B J x1 x2 0)) :
    LO k h M n D F I B J L bs P md nest S a6 a8 a0 wd b x1 x2 c (oc.bind fun q => mX3_readSteps_139 R (mX3_readSteps_2 R m1) q F (nI nest) (nI (c + 1)) w) (or.bind fun q2 => lkR R' (mX12_readProcess_6 R' m2) q2 x1 x2 x4) := by
  obtain ⟨I', v, B', J', e1, e2, ho⟩ := ho
  rcases ho with ⟨rfl, hpl⟩ | ⟨rfl, u, L', t', r', md', S', a6', a8', a0', g1, g2, g3, g4, g5, g6, g7, g8, g9, g10, g11, g12⟩
  · obtain ⟨x, I2, a1, a2⟩ := pfo_PL (PL.pre (cW_FQ hcw) (rP_RX hrp) hpl) (c' := b + 1) (fun f p hf => pf_139 (R := R) hK hf (nI nest) (nI (c + 1)) w)
    refine ⟨x, I2, 0, B', J', by rw [e1, sb]; exact a1, ?_, Or.inl ⟨rfl, a2⟩⟩
    rw [e2, sb]
    unfold lkR
    rw [if_pos rfl]
  · have hk0 := g2.1.1.1
    have gl := pgr_lt g9
    have hend := cr_end g1
    have hb' := g2.1.2.2.2.2.2.2.2.2
    have hu28 : u < 2800 := by omega
    have hC2 : CR I' (lnB B' x1 x2 u) J' bs t' r' := cr_lnk g1
    have H2 : PS k h M n D F I' (lnB B' x1 x2 u) J' L' t'.2.2 md' nest S' a6' a8' a0' wd1 b 0 := ps_lnk hX g2
    have e153 : lkR R' (mX12_readProcess_6 R' m2) (1, B', J') x1 x2 x4 = (mX12_need (lnB B' x1 x2 u) J' (nI 59)).bind fun q1 => if q1.1 = 0 then some (0, q1.2.1, q1.2.2) else mX12_readProcess_6 R' m2 q1.2.1 q1.2.2 (hdX x1 u) (nI u) 0 := by
      have e49 : lnB B' x1 x2 u 186 49 = nI u := by rw [lnB_c _ _ (by omega)]; exact g3
      rw [lk_eq hX g3]
      unfold mX12_readProcess_153
      rw [if_neg (fun z => hx4 (Or.inl z)), if_neg (fun z => hx4 (Or.inr (Or.inl z))), if_neg (fun z => hx4 (Or.inr (Or.inr (Or.inl z)))), if_neg (fun z => hx4 (Or.inr (Or.inr (Or.inr (Or.inl z))))), if_neg (fun z => hx4 (Or.inr (Or.inr (Or.inr (Or.inr z))))), e49]
      rfl
    have rpL : rP h md nest (lnB B x1 x2 u) J (lnB B' x1 x2 u) J' := by
      have r1 := hrp.trans g11 (Nat.le_refl md) (Nat.le_refl nest)
      refine ⟨fun q i p1 p2 p3 p4 => ?_, r1.2⟩
      have h9 := r1.1 q i p1 p2 p3 p4
      unfold lnB
      by_cases w : x1 = -1
      · rw [if_pos w, if_pos w]; exact h9
      · rw [if_neg w, if_neg w]
        by_cases w2 : q = 191 ∧ i = x2.toNatClampNeg
        · rw [w2.1, w2.2, a_u2_s, a_u2_s]
        · rw [a_u2_n _ _ w2, a_u2_n _ _ w2]; exact h9
    have cw1 : cW k I I' := hcw.trans (cQ_cW hk0 g10)
    have rx1 : RX h B J (lnB B' x1 x2 u) J' := (rP_RX (hrp.trans g11 (Nat.le_refl md) (Nat.le_refl nest))).trans (fun q i w => by
      refine ⟨?_, rfl⟩
      by_cases w1 : q = 191
      · refine lnB_v hX q i ?_
        unfold touR at w
        omega
      · exact lnB_c q i w1)
    rw [e1, sb, e2, sb, e153]
    unfold mX3_readSteps_139
    show LO k h M n D F I B J L bs P md nest S a6 a8 a0 wd b x1 x2 c ((mX2_want I' (nI 59)).bind fun q1 => mX3_readSteps_2 R m1 q1 F (nI nest) (nI (c + 1) + 1)) _
    rw [nI_1]
    rcases jneed hC2 H2.1.1 h 59 (by omega) with ⟨w1, u3, r3, I3, B3, J3, l1, l2, l3, l4, l5, l6, l7⟩ | ⟨w1, I3, B3, l2, l3, l4⟩
    · have htl : tl t'.1 = 1 := by rw [w1]; decide
      rw [htl] at l5
      have hend3 := cr_end l4
      have H3 := ps_cur H2 l6 l7 (P' := u3.2.2) (by omega)
      have hX3 : X12 h M md' (hdX x1 u) (nI u) := by
        refine Or.inr ?_
        rcases hX with y | ⟨f0, l0, y1, y2, y3, y4⟩
        · exact ⟨u, u, by unfold hdX; rw [if_pos y], rfl, hu28, by omega, by omega, by omega, hu28⟩
        · exact ⟨f0, u, by unfold hdX; rw [if_neg (by rw [y1]; exact nIm (by omega))]; exact y1, rfl, y3, by omega, by omega, by omega, hu28⟩
      have hhd : ¬ hdX x1 u = -1 := by
        unfold hdX
        by_cases y : x1 = -1
        · rw [if_pos y]; exact nIm (by omega)
        · rw [if_neg y]; exact y
      rw [l2, sb, l3, sb, if_neg i10]
      obtain ⟨x, I4, v, B4, J4, a1, a2, a3⟩ := hrec I3 B3 J3 L' u3 r3 md' S' a6' a8' a0' (hdX x1 u) (nI u) l4 H3 hX3
      have fq3 : FQ k I I3 := (cW_FQ cw1).trans (cQ_FQ (cf_cQ l6))
      rcases a3 with ⟨rfl, hpl⟩ | ⟨rfl, l, rfl, u2, L2, t2, r2, md2, b6, b8, b0, wd2, m, w1, w2, w3, w4, w5, w6, w7, w8, w9, w10⟩
      · exact ⟨x, I4, 0, B4, J4, a1, a2, Or.inl ⟨rfl, PL.pre fq3 (rx1.trans (rf_RX l7)) hpl⟩⟩
      · have gl2 := pgr_lt w7
        have hend2 := cr_end w1
        have hln : lnB B3 (hdX x1 u) (nI u) u2 = a_u2 B3 191 u (nI u2) := by
          unfold lnB
          rw [if_neg hhd, cl28 hu28]
        rw [hln] at w9
        have hmd2 : md2 ≤ 1000 := by have := w2.2.2.2.2.2.2.2.2.2.2.1.2.1; omega
        have hb4 : ∀ c v, 188 ≤ c → c ≤ 191 → v < 1400 * h + md' → ¬ (c = 191 ∧ v = u) → B4 c v = lnB B' x1 x2 u c v := fun c v p1 p2 p3 p4 => by rw [w9.1 c v (by omega) (by omega) (by omega) (by omega), a_u2_n _ _ p4, l7.1 c v (by omega)]
        have hb4u : B4 191 u = nI u2 := by rw [w9.1 191 u (by omega) (by omega) (by omega) (by omega), a_u2_s]
        have hj4 : ∀ v, v < 1400 * h + md' → J4 192 v = J' 192 v := fun v p => by rw [w9.2 192 v (by omega) (by omega) (by omega) (by omega), l7.2 192 v (by omega)]
        have hbv : ∀ c v, 188 ≤ c → c ≤ 191 → 1400 * h + md ≤ v → v < 1400 * h + md' → ¬ (c = 191 ∧ v = u) → B4 c v = B' c v := fun c v p1 p2 p3 p4 p5 => by rw [hb4 c v p1 p2 p4 p5, lnB_v hX _ _ (Or.inr (Or.inl p3))]
        have hPK : PK k L' L2 B' B4 J' J4 (fun v => 1400 * h + md ≤ v ∧ v < 1400 * h + md' ∧ v ≠ u) (fun κ => (L (k + 47)).length ≤ κ ∧ κ < (L' (k + 47)).length) (fun _ => False) := pk_of w7 g2.1.2.2.1 g2.1.2.2.2.1 (fun v hv => ⟨hbv _ _ (by decide) (by decide) hv.1 hv.2.1 (fun z => hv.2.2 z.2), hbv _ _ (by decide) (by decide) hv.1 hv.2.1 (fun z => hv.2.2 z.2), hbv _ _ (by decide) (by decide) hv.1 hv.2.1 (fun z => hv.2.2 z.2), hbv _ _ (by decide) (by decide) hv.1 hv.2.1 (fun z => hv.2.2 z.2), hj4 v hv.2.1⟩) (fun v hv => hv.2) (fun v hv => hv.elim)
        have hST := st_to hPK (Q' := fun v => 1400 * h + md ≤ v ∧ v < 1400 * h + md2) (Rn' := fun κ => (L (k + 47)).length ≤ κ ∧ κ < (L2 (k + 47)).length) (fun v hv => ⟨hv.1, by omega⟩) (fun v hv => ⟨hv.1, Nat.lt_of_lt_of_le hv.2 w7.2.2.2.2.2.2.1⟩) ⟨hbv _ _ (by decide) (by decide) g4 g5 (by omega), hbv _ _ (by decide) (by decide) g4 g5 (by omega), hbv _ _ (by decide) (by decide) g4 g5 (by omega), hj4 u g5⟩ g7
        have l55 : (L (k + 55)).length ≤ (L' (k + 55)).length := g9.2.2.2.2.2.2.2.1
        have hPR : PR k n D L2 B4 J4 (fun v => 1400 * h + md ≤ v ∧ v < 1400 * h + md2) (fun κ => (L (k + 47)).length ≤ κ ∧ κ < (L2 (k + 47)).length) (fun c => (L (k + 55)).length ≤ c ∧ c < (L2 (k + 55)).length) (m + 1) u (L (k + 47)).length (l + 1) (gm S) := by
          refine st_ph hST ⟨g4, by omega⟩ hb4u ?_
          rw [← g8]
          exact pr_sm w2.2.2.1 w2.2.2.2.1 (fun v hv => ⟨⟨by omega, hv.2⟩, rfl, rfl, rfl, rfl, rfl⟩) (fun v hv => ⟨by omega, hv.2⟩) (fun v hv => ⟨by omega, hv.2⟩) (Nat.le_refl _) w4
        have rpA : rP h md nest (lnB B' x1 x2 u) J' B4 J4 := by
          refine ⟨fun q i p1 p2 p3 p4 => ?_, fun q i p1 p2 p3 p4 => ?_⟩
          · rw [w9.1 q i p1 (fun z => p2 ⟨z.1, z.2.1, by omega, z.2.2.2⟩) p3 p4, a_u2_n _ _ (fun z => p2 ⟨by omega, by omega, by omega, by omega⟩)]
            exact l7.1 q i (fun z => p1 ⟨z.1, Or.inl z.2⟩)
          · rw [w9.2 q i p1 (fun z => p2 ⟨z.1, by omega, z.2.2⟩) p3 p4]
            exact l7.2 q i p1
        refine ⟨nI (c + 1 + l), I4, 1, B4, J4, a1, a2, Or.inr ⟨rfl, l + 1, by rw [show c + 1 + l = c + (l + 1) by omega], u, L2, t2, r2, md2, b6, b8, b0, wd2, m + 1, w1, w2, ?_, hPR, ⟨by omega, by omega⟩, by omega, pgr_trans (pgr_w g9 (Nat.le_refl _) (by omega) (Nat.le_refl _) (by have := pgr_md g9; omega)) w7, (cw1.trans (cQ_cW hk0 (cf_cQ l6))).trans w8, rpL.trans rpA (Nat.le_refl md) (Nat.le_refl nest), g12.trans w10⟩⟩
        rw [w3]
        show hdX (hdX x1 u) u2 = hdX x1 u
        rw [hdX, if_neg hhd]
    · rw [l2, sb, l3, sb, if_pos rfl]
      have hpl := (PL.pre (cW_FQ cw1) rx1 (fail_PL l4 (ps_scp H2) (by omega))).mono (Nat.le_succ b) (by omega)
      obtain ⟨x, I4, a1, a2⟩ := pfo_PL hpl (c' := b + 1) (o := mX3_readSteps_2 R m1 I3 F (nI nest) (nI (c + 1 + 1))) (fun f p hf => by
        rw [hK f p _ I3 _ _ hf]
        exact pfo_ret hf _)
      exact ⟨x, I4, 0, B3, J', a1, rfl, Or.inl ⟨rfl, a2⟩⟩
end
