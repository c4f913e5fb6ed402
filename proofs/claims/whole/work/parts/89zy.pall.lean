/-! EVERY P IS READ ALIKE (pure) -/
section
variable {k h M n : Nat} {D : List Df} {F : fT} {I B : iT} {J : jT} {L : lT} {bs : List Nat} {t : Tok} {r : List Tok} {P md nest wd b z : Nat} {S : List Sl} {a6 a8 a0 : List Int32} {x1 x2 : Int32} {u : Nat} {R R3 R2 : sc_3readAlternativeT} {R' R3' R2' : sc_12actT}
theorem rs2_fail {m1 : Nat} : ∀ (f p : Int32) (b : Nat) (I : iT) (x1 x2 : Int32), PF k f p b I → mX3_readSteps_2 R (m1 + 1) I F x1 x2 = some (-1, I) := by
  intro f p b I x1 x2 hp
  rw [mX3_readSteps_2, fm_failed hp.1, sb, if_neg i10, ite_self]
theorem rs_fail (f p : Int32) (b : Nat) (I : iT) (x : Int32) (hp : PF k f p b I) : bX3_readSteps R I F x = some (-1, I) := by
  unfold bX3_readSteps
  rw [lf_s]
  exact rs2_fail f p b I _ _ hp
theorem lp_step {m1 m2 c : Nat} (hc : R.2.2.1 = bX3_readCase R3) (hi : R.2.2.2.1 = bX3_readIf R3) (h1 : R3.2.1 = bX3_readBraced R2) (h1a : R3.1 = bX3_readAlternative R2) (ha' : R'.1 = bX12_act R3') (h2a : R3'.2.1 = bX12_asks R2') (h2c : R3'.2.2.1 = bX12_cases R2') (hP : nest < 8 → HP k h M n D F bs b (nest + 1) R2.2.2.2.2 R2'.2.2.2) (hcc : ∀ f p b I x, PF k f p b I → R2.2.2.2.2 I F x = some (-1, I)) (hcw : c ≤ wd) (hC : CR I B J bs t r) (H : PS k h M n D F I B J L t.2.2 md nest S a6 a8 a0 wd b 0) (hX : X12 h M md x1 x2)
    (hrec : wd < 80 → ∀ (I B : iT) (J : jT) (L : lT) (t : Tok) (r : List Tok) (md : Nat) (S : List Sl) (a6 a8 a0 : List Int32) (x1 x2 : Int32), CR I B J bs t r → PS k h M n D F I B J L t.2.2 md nest S a6 a8 a0 (wd + 1) b 0 → X12 h M md x1 x2 → LO k h M n D F I B J L bs t.2.2 md nest S a6 a8 a0 (wd + 1) b x1 x2 (c + 1) (mX3_readSteps_2 R (m1 + 1) I F (nI nest) (nI (c + 1 + 1))) (mX12_readProcess_6 R' (m2 + 1) B J x1 x2 0)) :
    LO k h M n D F I B J L bs t.2.2 md nest S a6 a8 a0 wd b x1 x2 c (mX3_readSteps_2 R (m1 + 2) I F (nI nest) (nI (c + 1))) (mX12_readProcess_6 R' (m2 + 2) B J x1 x2 0) := by
  have hk0 := H.1.1.1
  have hF := H.2.1.1
  have hbb := H.2.2.2.2.2.2.2.2
  have hwdd := H.2.2.2.2.1
  have hh := H.1.2.2.2.2.1
  have hK := H.1.2.2.2.2.2.2.2
  have hsl := hwdd.2.2.2
  have hN : N0 k L := ⟨H.1.2.2.1, dd_find0 H.2.2.2.1⟩
  have h16 := (cr_wf hC).1
  have e66 : I 6 6 = nI t.1 := hC.1.2.1
  have hrs2 := rs2_fail (R := R) (F := F) (k := k) (m1 := m1)
  have eC : mX3_readSteps_2 R (m1 + 2) I F (nI nest) (nI (c + 1)) = (mX3_countWord I (nI t.1)).bind fun q3 => stB R (mX3_readSteps_2 R (m1 + 1)) q3 F (nI nest) (nI (c + 1)) (nI t.1) := by
    rw [mX3_readSteps_2, if_neg (show ¬ (81 : Int32) < nI (c + 1) from nI_nlt (a := 81) (by omega) (by omega)), cr_failed hC, sb, if_pos rfl, e66]
    rfl
  -- a fault at the WORD
  have bad : ∀ {I9 B9 : iT} {or : Option (Int32 × iT × jT)}, mX3_countWord I (nI t.1) = some I9 → or = some (0, B9, J) → PL k h b I B J I9 B9 J → (∀ q, q ≠ 6 → q ≠ 134 → I9 q = I q) → LO k h M n D F I B J L bs t.2.2 md nest S a6 a8 a0 wd b x1 x2 c (mX3_readSteps_2 R (m1 + 2) I F (nI nest) (nI (c + 1))) or := by
    intro I9 B9 or c1 c2 c3 c4
    have hR9 : RS I9 k L := rs_keep H.1.1 (fun a ha => by
      unfold rowA at ha
      exact ⟨c4 a (by omega) (by omega), c4 (a + 1) (by omega) (by omega)⟩)
    obtain ⟨x, I', a1, a2⟩ := pfo_PL c3 (c' := b + 1) (fun f p hf => pf_stB (K := mX3_readSteps_2 R (m1 + 1)) hrs2 hF hc hi h1 hcc hf (by omega) hR9 hN (nI nest) (nI (c + 1)) (nI t.1))
    exact ⟨x, I', 0, B9, J, by rw [eC, c1, sb]; exact a1, c2, Or.inl ⟨rfl, a2⟩⟩
  by_cases hW : isW t.1 ∨ t.1 = 312
  · have e3 : B 186 3 = nI (t.1 - 200) := by
      have := (cr_r hC t.1 (by omega)).mpr rfl
      rw [this]
      unfold rtok
      unfold isW at hW
      rw [if_neg (by omega), if_neg (by omega), if_neg (by omega), if_neg (by omega), if_neg (by omega), if_neg (by omega)]
    have hR6 := rp_eq (R := R') (J := J) (x1 := x1) (x2 := x2) (m2 + 1) t.1 hW e3
    rcases hW with hW | hW
    · -- a WORD that is counted
      obtain ⟨vh, hv1, hv2, hv3⟩ := sr_has H.1.2.2.2.2.2.1 (rs_K H.1.1)
      by_cases q4 : t.1 = 315 ∧ hasC S
      · have hv : vh = 1 := by
          rcases hv3 with ⟨w, _⟩ | ⟨_, w⟩
          · exact w
          · exact absurd q4.2 w
        subst hv
        obtain ⟨I9, B9, c1, c2, c3, c4⟩ := cw_bad4 hC H q4.1 hv1
        refine bad c1 ?_ c3 c4
        rw [hR6, q4.1]
        show mX12_readProcess_59 R' _ B J x1 x2 0 115 = _
        rw [rp_594 hv2, cr_4 hC]
        exact rBad_ok c2
      · have hv : t.1 = 315 → vh = 0 := by
          intro w
          rcases hv3 with ⟨_, w2⟩ | ⟨w2, _⟩
          · exact absurd ⟨w, w2⟩ q4
          · exact w2
        have hno : t.1 = 315 → ¬ hasC S := fun w z => q4 ⟨w, z⟩
        have hc0 : t.1 = 315 → mX5_hasChannels I = some 0 := fun w => by rw [hv1, hv w]
        have hr0 : t.1 = 315 → mX12_has B J = some 0 := fun w => by rw [hv2, hv w]
        rw [rp_59 (R := R') hW hr0] at hR6
        rcases Nat.lt_or_ge wd 80 with hw8 | hw8
        · have hrec := hrec hw8
          have e44 : ¬ B 186 44 = 80 := by
            rw [hwdd.1]
            intro z
            have := (nI_eq (b := 80) (by omega) (by omega)).mp z
            omega
          rw [if_neg e44, hwdd.1, nI_1, ha'] at hR6
          have eC2 : mX3_readSteps_2 R (m1 + 2) I F (nI nest) (nI (c + 1)) = stB R (mX3_readSteps_2 R (m1 + 1)) (a_u2 I 134 5 (nI (wd + 1))) F (nI nest) (nI (c + 1)) (nI t.1) := by rw [eC, cw_ok hW hc0 hwdd.2.1 hw8, sb]
          rw [eC2, hR6]
          have hC1 := cr_wd hC (nI (wd + 1))
          have H1 := ps_wd H hw8
          have hcw1 : cW k I (a_u2 I 134 5 (nI (wd + 1))) := cw_wd
          have hrp1 : rP h md nest B J (a_u2 B 186 44 (nI (wd + 1))) J := rP_sc (by omega) _
          -- a last statement of one STEP
          have fin1 : ∀ {oc : Option iT} {or : Option (Int32 × iT × jT)}, EO k h M n D F (a_u2 I 134 5 (nI (wd + 1))) (a_u2 B 186 44 (nI (wd + 1))) J L bs t.2.2 md nest S a6 a8 a0 (wd + 1) b oc or → ∃ x I' v B' J', (oc.bind fun q => some (nI (c + 1), q)) = some (x, I') ∧ or = some (v, B', J') ∧ ((v = 0 ∧ PL k h (b + 1) I B J I' B' J') ∨ (v = 1 ∧ ∃ l, x = nI (c + l) ∧ WG k h M n D F I B J L bs t.2.2 md nest (gm S) a6 a8 a0 wd b I' B' J' l)) := by
            intro oc or ho
            obtain ⟨I', v, B', J', e1, e2, ho⟩ := ho
            refine ⟨nI (c + 1), I', v, B', J', by rw [e1, sb], e2, ?_⟩
            rcases ho with ⟨a, b⟩ | ⟨a, b⟩
            · exact Or.inl ⟨a, PL.pre (cW_FQ hcw1) (rP_RX hrp1) b⟩
            · exact Or.inr ⟨a, 1, rfl, wg_pre hcw1 hrp1 (Nat.le_refl wd) (b wd rfl)⟩
          have hS1 : S.length + 1 ≤ 5 + (wd + 1) := by omega
          have hW' := hW
          rcases hW' with q | q | q | q | q | q | q | q | q | q | q | q
          · have := lp_go (R := R) (R' := R') (m1 := m1 + 1) (m2 := m2 + 1) (c := c) (x4 := 103) (w := 303) (by decide) hcw1 hrp1 (Nat.le_refl (wd + 1)) (st_put R3' hC1 H1 q) hX hh.2.2.2 hh.1 (by omega) hrs2 hrec
            rw [q]
            exact this
          · have := lp_go (R := R) (R' := R') (m1 := m1 + 1) (m2 := m2 + 1) (c := c) (x4 := 104) (w := 304) (by decide) hcw1 hrp1 (Nat.le_refl (wd + 1)) (st_get R3' hC1 H1 hS1 q (nI nest)) hX hh.2.2.2 hh.1 (by omega) hrs2 hrec
            rw [q]
            exact this
          · have := lp_go (R := R) (R' := R') (m1 := m1 + 1) (m2 := m2 + 1) (c := c) (x4 := 105) (w := 305) (by decide) hcw1 hrp1 (Nat.le_refl (wd + 1)) (st_send R3' hC1 H1 q (nI nest)) hX hh.2.2.2 hh.1 (by omega) hrs2 hrec
            rw [q]
            exact this
          · have := lp_go (R := R) (R' := R') (m1 := m1 + 1) (m2 := m2 + 1) (c := c) (x4 := 106) (w := 306) (by decide) hcw1 hrp1 (Nat.le_refl (wd + 1)) (st_take R3' hC1 H1 hS1 q (nI nest)) hX hh.2.2.2 hh.1 (by omega) hrs2 hrec
            rw [q]
            exact this
          · have := lp_go (R := R) (R' := R') (m1 := m1 + 1) (m2 := m2 + 1) (c := c) (x4 := 107) (w := 307) (by decide) hcw1 hrp1 (Nat.le_refl (wd + 1)) (st_pick R3' hC1 H1 q (nI nest)) hX hh.2.2.2 hh.1 (by omega) hrs2 hrec
            rw [q]
            exact this
          · have hs := st_case (Rc := R3) (Rc2 := R2) (Rr := R3') (Rr2 := R2') h1a h2c hP hcc hC1 H1 q
            have := lp_end (R := R') (m2 := m2) (c := c) (x4 := 108) (by decide) (oc := (bX3_readCase R3 (a_u2 I 134 5 (nI (wd + 1))) F (nI nest)).bind fun q4 => some (nI (c + 1) + q4.1, q4.2)) (or := bX12_act R3' (a_u2 B 186 44 (nI (wd + 1))) J 108) (by
              obtain ⟨x, I', v, B', J', e1, e2, ho⟩ := hs
              refine ⟨nI (c + 1) + x, I', v, B', J', by rw [e1, sb], e2, ?_⟩
              rcases ho with ⟨a, b⟩ | ⟨a, l, e, b⟩
              · exact Or.inl ⟨a, PL.pre (cW_FQ hcw1) (rP_RX hrp1) b⟩
              · exact Or.inr ⟨a, l + 1, by rw [e, nI_add, show c + 1 + l = c + (l + 1) by omega], wg_pre hcw1 hrp1 (Nat.le_refl wd) (b wd rfl)⟩) hX hh.2.2.2
            rw [q]
            show LO k h M n D F I B J L bs t.2.2 md nest S a6 a8 a0 wd b x1 x2 c ((R.2.2.1 (a_u2 I 134 5 (nI (wd + 1))) F (nI nest)).bind fun q4 => some (nI (c + 1) + q4.1, q4.2)) _
            rw [hc]
            exact this
          · have := lp_go (R := R) (R' := R') (m1 := m1 + 1) (m2 := m2 + 1) (c := c) (x4 := 109) (w := 309) (by decide) hcw1 hrp1 (Nat.le_refl (wd + 1)) (st_new R3' hC1 H1 hS1 q) hX hh.2.2.2 hh.1 (by omega) hrs2 hrec
            rw [q]
            exact this
          · have := lp_end (R := R') (m2 := m2) (c := c) (x4 := 110) (by decide) (fin1 (st_same R3' hC1 H1 q)) hX hh.2.2.2
            rw [q]
            exact this
          · have := lp_end (R := R') (m2 := m2) (c := c) (x4 := 111) (by decide) (fin1 (st_go R3' hC1 H1 q)) hX hh.2.2.2
            rw [q]
            exact this
          · have hs := st_say R3' hC1 H1 q
            have hs2 : SO k h M n D F (a_u2 I 134 5 (nI (wd + 1))) (a_u2 B 186 44 (nI (wd + 1))) J L bs t.2.2 md nest S a6 a8 a0 (wd + 1) b (mX3_readSay (a_u2 I 134 5 (nI (wd + 1))) F (nI nest)) (bX12_act R3' (a_u2 B 186 44 (nI (wd + 1))) J 114) := by
              obtain ⟨I', v, B', J', e1, e2, ho⟩ := hs
              refine ⟨I', v, B', J', e1, e2, ?_⟩
              rcases ho with ⟨a, b⟩ | ⟨a, b⟩
              · exact Or.inl ⟨a, b.mono (Nat.le_succ _) (by omega)⟩
              · exact Or.inr ⟨a, b⟩
            have := lp_go (R := R) (R' := R') (m1 := m1 + 1) (m2 := m2 + 1) (c := c) (x4 := 114) (w := 314) (by decide) hcw1 hrp1 (Nat.le_refl (wd + 1)) hs2 hX hh.2.2.2 hh.1 (by omega) hrs2 hrec
            rw [q]
            exact this
          · have := lp_end (R := R') (m2 := m2) (c := c) (x4 := 115) (by decide) (fin1 (st_close R3' hC1 H1 q (hno q))) hX hh.2.2.2
            rw [q]
            exact this
          · have := lp_go (R := R) (R' := R') (m1 := m1 + 1) (m2 := m2 + 1) (c := c) (x4 := 116) (w := 316) (by decide) hcw1 hrp1 (Nat.le_refl (wd + 1)) (st_wait R3' hC1 H1 q (nI nest)) hX hh.2.2.2 hh.1 (by omega) hrs2 hrec
            rw [q]
            exact this
        · have hw80 : wd = 80 := by omega
          obtain ⟨I9, B9, c1, c2, c3, c4⟩ := cw_bad5 hC H hW hc0 hw80
          refine bad c1 ?_ c3 c4
          rw [hR6, if_pos (by rw [hwdd.1, hw80]; rfl), cr_4 hC]
          exact rBad_ok c2
    · -- if
      have eC2 : mX3_readSteps_2 R (m1 + 2) I F (nI nest) (nI (c + 1)) = (bX3_readIf R3 I F (nI nest)).bind fun q8 => some ((nI (c + 1) - 1) + q8.1, q8.2) := by
        have e78 : mX3_countWord I 312 = some I := by
          show mX3_countWord_78 I 312 = some I
          unfold mX3_countWord_78
          rw [hwdd.2.1, if_pos (show nI wd ≤ 80 from nI_le (b := 80) (by omega) (by omega))]
        rw [eC, hW]
        show ((mX3_countWord I 312).bind _) = _
        rw [e78, sb, ← hi]
        rfl
      have hs := st_if (Rc := R3) (Rc2 := R2) (Rr := R3') (Rr2 := R2') h1 h2a hP hcc hC H hW
      have := lp_end (R := R') (m2 := m2) (c := c) (x4 := 112) (by decide) (oc := (bX3_readIf R3 I F (nI nest)).bind fun q8 => some ((nI (c + 1) - 1) + q8.1, q8.2)) (or := bX12_act R3' B J 112) (by
        obtain ⟨x, I', v, B', J', e1, e2, ho⟩ := hs
        refine ⟨(nI (c + 1) - 1) + x, I', v, B', J', by rw [e1, sb], e2, ?_⟩
        rcases ho with ⟨a, b⟩ | ⟨a, l, e, b⟩
        · exact Or.inl ⟨a, b⟩
        · exact Or.inr ⟨a, l, by rw [e, nI_pred, nI_add], b⟩) hX hh.2.2.2
      rw [eC2, hR6, hW]
      show LO k h M n D F I B J L bs t.2.2 md nest S a6 a8 a0 wd b x1 x2 c _ (mX12_readProcess_59 R' _ B J x1 x2 0 112)
      rw [rp_59i, ha']
      exact this
  · have hlt : t.1 < 303 ∨ t.1 = 313 := by
      unfold isW at hW
      omega
    obtain ⟨I9, B9, c1, c2, c3, c4⟩ := cw_bad1 hC H hlt
    refine bad c1 ?_ c3 c4
    rw [rp_bad (m2 + 1) t.1 hW h16 ((cr_r hC t.1 (by omega)).mpr rfl), cr_4 hC]
    exact rBad_ok c2
theorem lp_all (hc : R.2.2.1 = bX3_readCase R3) (hi : R.2.2.2.1 = bX3_readIf R3) (h1 : R3.2.1 = bX3_readBraced R2) (h1a : R3.1 = bX3_readAlternative R2) (ha' : R'.1 = bX12_act R3') (h2a : R3'.2.1 = bX12_asks R2') (h2c : R3'.2.2.1 = bX12_cases R2') (hP : nest < 8 → HP k h M n D F bs b (nest + 1) R2.2.2.2.2 R2'.2.2.2) (hcc : ∀ f p b I x, PF k f p b I → R2.2.2.2.2 I F x = some (-1, I)) :
    ∀ (d wd : Nat), wd + d = 80 → ∀ (c m1 m2 : Nat), c ≤ wd → ∀ (I B : iT) (J : jT) (L : lT) (t : Tok) (r : List Tok) (md : Nat) (S : List Sl) (a6 a8 a0 : List Int32) (x1 x2 : Int32), CR I B J bs t r → PS k h M n D F I B J L t.2.2 md nest S a6 a8 a0 wd b 0 → X12 h M md x1 x2 → LO k h M n D F I B J L bs t.2.2 md nest S a6 a8 a0 wd b x1 x2 c (mX3_readSteps_2 R (m1 + d + 2) I F (nI nest) (nI (c + 1))) (mX12_readProcess_6 R' (m2 + d + 2) B J x1 x2 0) := by
  intro d
  induction d with
  | zero =>
    intro wd hwd c m1 m2 hcw I B J L t r md S a6 a8 a0 x1 x2 hC H hX
    exact lp_step hc hi h1 h1a ha' h2a h2c hP hcc hcw hC H hX (fun w => absurd w (by omega))
  | succ d ih =>
    intro wd hwd c m1 m2 hcw I B J L t r md S a6 a8 a0 x1 x2 hC H hX
    exact lp_step (m1 := m1 + d + 1) (m2 := m2 + d + 1) hc hi h1 h1a ha' h2a h2c hP hcc hcw hC H hX (fun w I B J L t r md S a6 a8 a0 x1 x2 hC H hX => ih (wd + 1) (by omega) (c + 1) m1 m2 (by omega) I B J L t r md S a6 a8 a0 x1 x2 hC H hX)
end
