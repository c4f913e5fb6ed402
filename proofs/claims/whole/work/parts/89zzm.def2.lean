/-! A WHOLE DEF, in both (pure): from its WORD -/
section
variable {k h : Nat} {W : List Ent} {D : List Df} {F : fT} {I B : iT} {J : jT} {L : lT} {bs : List Nat} {t : Tok} {r : List Tok} {P md b : Nat} {f p : Int32}
theorem df_one (hC : CR I B J bs t r) (H : BS k h W D F I B J L t.2.2 md b) (hb : b + 2 ≤ 9000) : DOO k h W D F I B J bs t.2.2 b (mX3_readDef I F) (mX12_defText B J) := by
  have hk0 := H.1.1.1
  have hF := H.2.1.1
  have hs := H.2.2.2.2.2.2.1
  have hh := H.1.2.2.2.2.1
  have h12 := H.2.2.2.2.1.2.2.1
  rw [def_eq hF, dfN_eq]
  rcases jdefw hC H.1.1 h with ⟨q, u, r1, I1, B1, J1, k1, k2, k3, k4, k5, k6, k7⟩ | ⟨q, I1, B1, k2, k3, k4⟩
  · have H1 := bs_cur H k6 k7 (P' := u.2.2) (by omega)
    have fq1 : FQ k I I1 := cQ_FQ (cf_cQ k6)
    have rx1 : RX h B J B1 J1 := rf_RX k7
    have hh1 := H1.1.2.2.2.2.1
    have hDD1 := H1.2.2.2.2.1
    have er : B1 186 3 = 2 ↔ u.1 = 256 := cr_r k4 256 (by decide)
    have ec : I1 6 6 = 256 ↔ u.1 = 256 := cr_c k4 256 (by omega)
    rw [k2, sb, k3, sb, if_neg i10]
    show DOO k h W D F I B J bs t.2.2 b ((mX3_readFresh (k + 33) I1 12).bind fun q2 => D0 k q2.2 F q2.1) (dfN B1 J1)
    by_cases q2 : u.1 = 256
    · have hwN : isN u.2.1 := (cr_wf k4).2.1 q2
      have hval : I1 6 7 = nI (cN u.2.1) := k4.1.2.2.1.1 q2
      have hJ6 : J1 186 6 = lN (rN u.2.1) := k4.2.1.2.2.2.1 q2
      have htl2 : tl u.1 = 1 := by rw [q2]; decide
      -- the reference keeps the NAME, the class does not yet
      have fJ1 : ∀ q i, ¬ (q = 194 ∧ i = 12 * h + D.length) → (a_u2 J1 194 (12 * h + D.length) (J1 186 6)) q i = J1 q i := fun q i w => a_u2_n _ _ w
      have gJ1 : (a_u2 J1 194 (12 * h + D.length) (J1 186 6)) 194 (12 * h + D.length) = lN (rN u.2.1) := by rw [a_u2_s]; exact hJ6
      have hC1 : CR I1 B1 (a_u2 J1 194 (12 * h + D.length) (J1 186 6)) bs u r1 := CR_B k4 (fun _ _ _ => rfl) rfl (fJ1 _ _ (by omega))
      obtain ⟨u2, r2, I2, B2, J2, l1, l2, l3, l4, l5, l6, l7⟩ := jadv hC1 (by omega)
      rw [htl2] at l5
      have hR2 : RS I2 k L := cf_RS l6 H1.1.1
      have eT : mX2_takeName I1 = some (nI (cN u.2.1), I2) := by
        unfold mX2_takeName
        rw [if_pos (ec.mpr q2), l2, sb, hval]
      have eF : mX3_readFresh (k + 33) I1 12 = if lfind (L (k + 33)) (nI (cN u.2.1)) = -1 then mX3_readFresh_36 (k + 33) I2 12 (nI u.2.2) (nI (cN u.2.1)) else (mX2_refuse I2 2 (nI u.2.2)).bind fun q5 => mX3_readFresh_36 (k + 33) q5 12 (nI u.2.2) (nI (cN u.2.1)) := by
        unfold mX3_readFresh
        rw [eT, sb]
        show ((mX4_find (k + 33) I2 (nI (cN u.2.1))).bind _) = _
        rw [rs_find hR2 (by unfold rowA; omega), sb, cr_8 k4]
      -- both refuse at the NAME
      have fail : ∀ {fc : Int32}, fc ≠ 0 → ∃ I9 I' B', mX2_refuse I2 fc (nI u.2.2) = some I9 ∧ (∃ f p, FM k f p I9) ∧ D0 k I9 F (nI (cN u.2.1)) = some I' ∧ rBad B1 J1 fc (B1 186 4) = some (0, B', J1) ∧ PL k h (b + 2) I B J I' B' J1 := by
        intro fc hfc
        obtain ⟨I9, B9, b1, b2, b3⟩ := jbad2 k4 hR2 (cr_9 l4) (cf_FX l6) h (f := fc) hfc (nI u.2.2)
        obtain ⟨I', d1, d2⟩ := pfu_PL (PL.pre fq1 rx1 (fail_PL b3 (c := b) (hs.1.keep (fun q _ _ => cf_b k6 (by omega))) (by omega))) (c' := b + 2) (fun f p hf => pf_D0 (F := F) hF hf (by omega) (nI (cN u.2.1)))
        obtain ⟨f, p, g, _⟩ := b3
        exact ⟨I9, I', B9, b1, ⟨f, p, g⟩, d1, by rw [cr_4 k4]; exact rBad_ok b2, d2⟩
      rcases dd_find hDD1 hh1.1 hh1.2.1 hwN with ⟨i, e, f1, f2, f3, f4⟩ | ⟨f3, f4⟩
      · -- there already
        left
        have hi : i < D.length := lt_get f1
        obtain ⟨I9, I', B', c1, ⟨f, p, hfm⟩, c2, c3, c4⟩ := fail (fc := 2) (by decide)
        refine ⟨I', B', J1, ?_, ?_, c4⟩
        · rw [eF, f4, if_neg (nIm (by omega)), c1, sb, fm_f36 hfm (by unfold rowA; omega), sb]
          exact c2
        · unfold dfN
          rw [if_pos (er.mpr q2), hJ6, f3, sb, if_neg (nIm (by omega))]
          exact c3
      · have esz : mX4_size (k + 33) I2 = some (nI D.length) := by
          rw [rs_size hR2 (by unfold rowA; omega), hDD1.1, List.length_map]
        have e36 : mX3_readFresh (k + 33) I1 12 = if nI D.length < 12 then some (nI (cN u.2.1), I2) else (mX2_refuse I2 5 (nI u.2.2)).bind fun q2 => some (nI (cN u.2.1), q2) := by
          rw [eF, f4, if_pos rfl]
          unfold mX3_readFresh_36
          rw [esz, sb]
        have c2 : (nI h).toNatClampNeg = h := nI_clamp (by omega)
        have i2 : inb (nI h) 2 := vp_in_nI hh.1 (by omega)
        have e205 : B1 205 h = nI D.length := hDD1.2.1
        have e12 : (12 : Int32) * nI h + nI D.length = nI (12 * h + D.length) := i12m h D.length
        have hRf : dfN B1 J1 = if nI D.length = 12 then rBad B1 J1 5 (B1 186 4) else if inb (nI (12 * h + D.length)) 24 then (mX12_look0 B1 (a_u2 J1 194 (nI (12 * h + D.length)).toNatClampNeg (J1 186 6))).bind fun q20 => (mX12_need q20.1 q20.2 40).bind fun q21 => if q21.1 = 0 then some (0, q21.2.1, q21.2.2) else mX12_defText_135 LF (a_u2 (a_u2 (a_u2 q21.2.1 186 43 0) 186 44 0) 186 45 0) q21.2.2 (nI (12 * h + D.length)) 0 else none := by
          unfold dfN
          rw [if_pos (er.mpr q2), show mX12_findDef B1 J1 (J1 186 6) = some (-1) by rw [hJ6]; exact f3, sb, if_pos rfl, hh1.2.1, if_pos i2, if_pos i2, c2, e205, e12]
        rw [hRf, e36]
        rcases Nat.lt_or_ge D.length 12 with hl | hl
        · have n12 : ¬ nI D.length = 12 := by
            intro z
            have := (nI_eq (b := 12) (by omega) (by omega)).mp z
            omega
          have i24 : inb (nI (12 * h + D.length)) 24 := vp_in_nI (by omega) (by omega)
          have c24 : (nI (12 * h + D.length)).toNatClampNeg = 12 * h + D.length := nI_clamp (by omega)
          rw [if_pos (show nI D.length < 12 from nI_lt (b := 12) hl (by omega)), sb, if_neg n12, if_pos i24, c24, l3, sb]
          show DOO k h W D F I B J bs t.2.2 b (D0 k I2 F (nI (cN u.2.1))) ((mX12_need B2 J2 40).bind fun q21 => if q21.1 = 0 then some (0, q21.2.1, q21.2.2) else mX12_defText_135 LF (a_u2 (a_u2 (a_u2 q21.2.1 186 43 0) 186 44 0) 186 45 0) q21.2.2 (nI (12 * h + D.length)) 0)
          have fq2 : FQ k I I2 := fq1.trans (cQ_FQ (cf_cQ l6))
          have rx2 : RX h B J B2 J2 := (rx1.trans (fun q i w => ⟨rfl, fJ1 q i (fun z => w (by unfold touR; omega))⟩)).trans (rf_RX l7)
          -- what is there begins
          obtain ⟨⟨a6, a8, a0, lv, s1, s2, s3, s4⟩, s5, s6⟩ := hs
          have hSW2 : SW I2 a6 a8 a0 := s1.keep (fun q _ _ => by rw [cf_b l6 (by omega), cf_b k6 (by omega)])
          obtain ⟨I3, b6, b8, b0, y1, y2, y3, y4, y5, y6, y7, y8⟩ := start_ok hSW2
          have hb0 : ∀ i, i < 9 → ∃ s, s ≤ b ∧ gI b0 i = nI s := by
            intro i hi
            by_cases w : i = 0
            · subst w
              exact ⟨1, by omega, y4⟩
            · obtain ⟨s, z1, z2⟩ := s4 i hi
              exact ⟨s, z1, by rw [y7 i w]; exact z2⟩
          have hR3 : RS (a_u2 I3 134 6 (-1)) k L := rs_sc (rs_keep hR2 (fun a ha => by
            unfold rowA at ha
            exact ⟨y8 a (by omega), y8 (a + 1) (by omega)⟩)) (by omega) _ _
          have f3' : ∀ q, ¬ (134 ≤ q ∧ q ≤ 141) → (a_u2 I3 134 6 (-1)) q = I2 q := fun q w => by rw [au2_b _ _ (by omega), y8 q (by omega)]
          have h45 := H1.2.2.2.2.2.2.2.2
          obtain ⟨I4, p1, p2, p3⟩ := pr18_ok hF hR3 (by omega) (nI (L (k + 45)).length)
          have eD0 : D0 k I2 F (nI (cN u.2.1)) = (prR I4 F (nI (4 * D.length))).bind fun q4 => D2 k q4 F (nI (cN u.2.1)) := by
            unfold D0
            rw [y1, sb]
            unfold D1 mX3_readParams
            rw [hF, rs_size hR3 (by unfold rowA; omega), sb, p1, h45.2.2.2.2.2]
          rw [eD0]
          have hC4 : CR I4 B2 J2 bs u2 r2 := CR_I l4 (by rw [p3 _ (by omega) (by omega), f3' _ (by omega)]) (by rw [p3 _ (by omega) (by omega), f3' _ (by omega)]) (by rw [p3 _ (by omega) (by omega), f3' _ (by omega)]) (by rw [p3 _ (by omega) (by omega), f3' _ (by omega)])
          have fq4 : FQ k I I4 := fq2.trans (fun q w1 w2 w3 => by rw [p3 _ (by omega) (by omega), f3' _ (by omega)])
          have hSW4 : SW I4 b6 b8 b0 := y2.keep (fun q w1 w2 => by rw [p3 _ (by omega) (by omega), au2_b _ _ (by omega)])
          have hl4 : I4 135 3 = nI 0 := by rw [p3 _ (by omega) (by omega), au2_b _ _ (by omega)]; exact y3
          have hs4 : SCP b I4 := ⟨b6, b8, b0, 0, hSW4, hl4, by omega, hb0⟩
          have e134 : I4 134 6 = -1 := by rw [p3 _ (by omega) (by omega), a_u2_s]
          unfold prR
          rcases jneed hC4 p2 h 40 (by omega) with ⟨w1, u3, r3, I5, B3, J3, m1, m2, m3, m4, m5, m6, m7⟩ | ⟨w1, I5, B3, m2, m3, m4⟩
          · have htl3 : tl u2.1 = 1 := by rw [w1]; decide
            rw [htl3] at m5
            have m2' : mX2_want I4 40 = some I5 := m2
            have m3' : mX12_need B2 J2 40 = some (1, B3, J3) := m3
            have i256 : mX2_is I5 256 = some (if u3.1 = 256 then 1 else 0) := cr_is m4 256 (by omega)
            have fB3 : ∀ q i, ¬ (q = 186 ∧ ((2 ≤ i ∧ i ≤ 5) ∨ (43 ≤ i ∧ i ≤ 45))) → (a_u2 (a_u2 (a_u2 B3 186 43 0) 186 44 0) 186 45 0) q i = B q i := fun q i w => by rw [a_u2_n _ _ (by omega), a_u2_n _ _ (by omega), a_u2_n _ _ (by omega), m7.1 _ _ (by omega), l7.1 _ _ (by omega), k7.1 _ _ (by omega)]
            have gB43 : (a_u2 (a_u2 (a_u2 B3 186 43 0) 186 44 0) 186 45 0) 186 43 = 0 := by rw [a_u2_n _ _ (by omega), a_u2_n _ _ (by omega), a_u2_s]
            have gB44 : (a_u2 (a_u2 (a_u2 B3 186 43 0) 186 44 0) 186 45 0) 186 44 = 0 := by rw [a_u2_n _ _ (by omega), a_u2_s]
            have gB45 : (a_u2 (a_u2 (a_u2 B3 186 43 0) 186 44 0) 186 45 0) 186 45 = 0 := a_u2_s _ _ _ _
            have kB : ∀ q i, ¬ (q = 186 ∧ (43 ≤ i ∧ i ≤ 45)) → (a_u2 (a_u2 (a_u2 B3 186 43 0) 186 44 0) 186 45 0) q i = B3 q i := fun q i w => by rw [a_u2_n _ _ (by omega), a_u2_n _ _ (by omega), a_u2_n _ _ (by omega)]
            have hJ3 : ∀ q i, ¬ (q = 186 ∧ i = 6) → ¬ (q = 194 ∧ i = 12 * h + D.length) → J3 q i = J q i := fun q i w1 w2 => by rw [m7.2 _ _ w1, l7.2 _ _ w1, fJ1 _ _ w2, k7.2 _ _ w1]
            have g194 : J3 194 (12 * h + D.length) = lN (rN u.2.1) := by rw [m7.2 _ _ (by omega), l7.2 _ _ (by omega)]; exact gJ1
            rw [m2', sb, m3', sb, if_neg i10, i256, sb]
            show DOO k h W D F I B J bs t.2.2 b _ (mX12_defText_135 LF (a_u2 (a_u2 (a_u2 B3 186 43 0) 186 44 0) 186 45 0) J3 (nI (12 * h + D.length)) 0)
            generalize (a_u2 (a_u2 (a_u2 B3 186 43 0) 186 44 0) 186 45 0) = B4 at fB3 gB43 gB44 gB45 kB ⊢
            have hC5 : CR I5 B4 J3 bs u3 r3 := CR_B m4 (fun j _ _ => kB _ _ (by omega)) (funext fun j => kB _ _ (by omega)) rfl
            have fq5 : FQ k I I5 := fq4.trans (cQ_FQ (cf_cQ m6))
            have rx4 : RX h B J B4 J3 := (rx2.trans (rf_RX m7)).trans (fun q i w => ⟨kB q i (fun z => w (by unfold touR; omega)), rfl⟩)
            have hR5 := cf_RS m6 p2
            have hSW5 : SW I5 b6 b8 b0 := hSW4.keep (fun q _ _ => cf_b m6 (by omega))
            have hl5 : I5 135 3 = nI 0 := by rw [cf_b m6 (by omega)]; exact hl4
            have e134' : I5 134 6 = -1 := by rw [cf_b m6 (by omega)]; exact e134
            by_cases q3 : u3.1 = 256
            · rw [if_pos q3, if_neg i10]
              exact df_prm (P0 := t.2.2) hwN (by omega) H hl (CR_I hC5 (au2_b _ _ (by omega)) (au2_b _ _ (by omega)) (au2_b _ _ (by omega)) (au2_b _ _ (by omega))) hb (rs_sc hR5 (by omega) _ _) (hSW5.keep (fun q _ _ => au2_b _ _ (by omega))) (by rw [au2_b _ _ (by omega)]; exact hl5) y4 y5 y6 hb0 ⟨fun _ => by rw [a_u2_s]; exact cr_8 hC5, fun z => absurd q3 z⟩ gB43 gB44 gB45 g194 (fq5.trans (fun q w1 w2 w3 => au2_b _ _ (by omega))) rx4 fB3 hJ3
            · rw [if_neg q3, if_pos rfl]
              exact df_prm (P0 := t.2.2) hwN (by omega) H hl hC5 hb hR5 hSW5 hl5 y4 y5 y6 hb0 ⟨fun z => absurd z q3, fun _ => e134'⟩ gB43 gB44 gB45 g194 fq5 rx4 fB3 hJ3
          · left
            have m2' : mX2_want I4 40 = some I5 := m2
            have m3' : mX12_need B2 J2 40 = some (0, B3, J2) := m3
            obtain ⟨I', d1, d2⟩ := pfu_PL (PL.pre fq4 rx2 (fail_PL m4 hs4 (by omega))) (c' := b + 2) (o := ((mX2_is I5 256).bind fun q12 => if q12 = 0 then mX3_readParams_76 I5 F (nI (4 * D.length)) 0 else mX3_readParams_76 (a_u2 I5 134 6 (I5 6 8)) F (nI (4 * D.length)) 0).bind fun q4 => D2 k q4 F (nI (cN u.2.1))) (fun f p hf => by
              have h1 := pf_prR hF hf (by omega) (nI (4 * D.length))
              unfold prR at h1
              rw [fm_want hf.1 (by decide), sb] at h1
              exact pfu_mono (pfu_u h1 (fun I1 h2 => pf_D2 h2 _)) (by omega) (by omega))
            exact ⟨I', B3, J2, by rw [m2', sb]; exact d1, by rw [m3', sb, if_pos rfl], d2⟩
        · left
          obtain ⟨I9, I', B', c1, ⟨f, p, hfm⟩, c2', c3, c4⟩ := fail (fc := 5) (by decide)
          refine ⟨I', B', J1, ?_, ?_, c4⟩
          · rw [if_neg (show ¬ nI D.length < 12 from nI_nlt (b := 12) hl (by omega)), c1, sb, sb]
            exact c2'
          · rw [if_pos (by rw [show D.length = 12 by omega]; rfl)]
            exact c3
    · left
      obtain ⟨I9, B9, b1, b2, b3, b4⟩ := jbad k4 H1.1.1 h (f := 1) (by decide) (nI u.2.2)
      have hPL := PL.pre fq1 rx1 (fail_PL b3 (c := b) (hs.1.keep (fun q _ _ => cf_b k6 (by omega))) (by omega))
      have eT : mX2_takeName I1 = some (0, I9) := by
        unfold mX2_takeName
        rw [if_neg (fun z => q2 (ec.mp z)), cr_8 k4, b1, sb]
      have hfm : ∃ f p, FM k f p I9 := by
        obtain ⟨f, p, g, _⟩ := b3
        exact ⟨f, p, g⟩
      obtain ⟨f, p, hfm⟩ := hfm
      have eF : mX3_readFresh (k + 33) I1 12 = some (0, I9) := by
        unfold mX3_readFresh
        rw [eT, sb]
        obtain ⟨v, hv⟩ := fm_find hfm (a := k + 33) (by unfold rowA; omega) 0
        show ((mX4_find (k + 33) I9 0).bind _) = _
        rw [hv, sb, fm_refuse hfm, sb, fm_f36 hfm (by unfold rowA; omega), ite_self]
      obtain ⟨I', d1, d2⟩ := pfu_PL hPL (c' := b + 2) (fun f p hf => pf_D0 (F := F) hF hf (by omega) 0)
      refine ⟨I', B9, J1, ?_, ?_, d2⟩
      · rw [eF, sb]
        exact d1
      · unfold dfN
        rw [if_neg (fun z => q2 (er.mp z)), cr_4 k4]
        exact rBad_ok b2
  · left
    obtain ⟨I', d1, d2⟩ := pfu_PL (fail_PL k4 hs.1 (by omega)) (c' := b + 2) (fun f p hf => pf_dh (F := F) hF hf (by omega))
    exact ⟨I', B1, J, by rw [k2, sb]; exact d1, by rw [k3, sb, if_pos rfl], d2⟩
end
