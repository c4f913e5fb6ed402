/-! THE ALTERNATIVES OF A case, all of them (pure) -/
section
variable {k : Nat} {f p : Int32} {b : Nat} {I : iT} {F : fT} {Rc : sc_3readAlternativeT}
theorem pf_175 (hp : PF k f p b I) (x1 x2 x3 x4 x5 x6 x7 x8 : Int32) : PFo k f p b I (mX3_readCase_175 Rc I F x1 x2 x3 x4 x5 x6 x7 x8) := by
  unfold mX3_readCase_175 mX3_readCase_209
  rw [fm_is hp.1 (by decide), sb, if_pos rfl, fm_want hp.1 (by decide), sb]
  exact pfo_ret hp _
/-- the class behind an alternative -/
def csC (Rc : sc_3readAlternativeT) (m : Nat) (I : iT) (F : fT) (x1 x2 x3 x4 x5 x6 x7 x8 : Int32) : Option (Int32 × iT) := (mX2_skip I 124).bind fun q6 => if q6.1 = 0 then mX3_readCase_175 Rc q6.2 F x1 x2 x3 x4 x5 x6 x7 x8 else mX3_readCase_119 Rc m q6.2 F x1 x2 x3 x4 x5 x6 x7 (x8 + 1)
theorem pf_csC (hp : PF k f p b I) (m : Nat) (x1 x2 x3 x4 x5 x6 x7 x8 : Int32) : PFo k f p b I (csC Rc m I F x1 x2 x3 x4 x5 x6 x7 x8) := by
  unfold csC
  rw [fm_skip hp.1 (by decide), sb, if_pos rfl]
  exact pf_175 hp _ _ _ _ _ _ _ _
theorem pf_119 (hp : PF k f p b I) (m : Nat) (x1 x2 x3 x4 x5 x6 x7 : Int32) : PFo k f p b I (mX3_readCase_119 Rc (m + 1) I F x1 x2 x3 x4 x5 x6 x7 0) := by
  rw [mX3_readCase_119, if_neg (by decide), fm_failed hp.1, sb, if_neg (by decide)]
  exact pf_175 hp _ _ _ _ _ _ _ _
end
section
variable {k h M n : Nat} {D : List Df} {F : fT} {I B : iT} {J : jT} {L : lT} {bs : List Nat} {t : Tok} {r : List Tok} {P md nest wd b z : Nat} {S : List Sl} {a6 a8 a0 c6 c8 c0 : List Int32} {i : Nat} {s : Sl} {kd f : Nat} {brs : List Br} {κ uk : Nat} {I0 B0 : iT} {J0 : jT} {L0 : lT} {P0 md0 wd0 : Nat} {s6 s8 s0 : List Int32} {bl : List Alt} {mm : Nat}
/-- the cursors go on between two alternatives -/
theorem cai_cur (hs : S[i]? = some s) (hs2 : s.1 = 2) (H : CAi k h M n D F nest b S i s f brs κ uk I0 B0 J0 L0 P0 md0 wd0 s6 s8 s0 I B J L P md wd a6 a8 a0 bl mm 0) {I' B' : iT} {J' : jT} {P' : Nat} (a : cf I I') (c : rf B J B' J') (hP : P + 1 ≤ P') : CAi k h M n D F nest b S i s f brs κ uk I0 B0 J0 L0 P0 md0 wd0 s6 s8 s0 I' B' J' L P' md wd a6 a8 a0 bl mm 1 := by
  obtain ⟨⟨HU, hok, hv, hmd, hcho⟩, hκ, h55, ⟨huk, hm0, hMu, u188, u189⟩, ⟨hal, hnd1, hnd2⟩, hus, hbl, hmm, hpg, hbud, hwd, hcw, hrp, hlk⟩ := H
  have hT := HU.2.2.1
  have hS := HU.2.2.2.1
  have hk0 := HU.1.1
  have fA : ∀ v, (B' 188 v = B 188 v ∧ B' 189 v = B 189 v ∧ B' 190 v = B 190 v ∧ B' 191 v = B 191 v ∧ J' 192 v = J 192 v) := fun v => ⟨c.1 _ _ (by omega), c.1 _ _ (by omega), c.1 _ _ (by omega), c.1 _ _ (by omega), c.2 _ _ (by omega)⟩
  have hpg' : PG0 k L0 L P0 P' md0 md := by
    obtain ⟨y1, y2, y3, y4, y5, y6, ⟨y7, y8, y9, y10⟩, y11, y12, y13, y14⟩ := hpg
    exact ⟨y1, y2, y3, y4, y5, y6, ⟨y7, y8, y9, by omega⟩, by omega, by omega, by omega, by omega⟩
  exact ⟨⟨pu_cur HU a c (by omega), sok_to hok hT TE.rfl (fun v _ _ => fA v), sv_to hv ⟨hok.2.2.2.1, hok.2.1⟩ (fun q i w1 w2 w3 => c.1 _ _ (by omega)) (fun i w1 w2 => c.2 _ _ (by omega)), by omega, cho_to hT (fun _ _ _ => rfl) (tr_u ((hok.2.2.2.2.1 i s hs).2.2 hs2).2).2.1 (fun v _ => fA v) hcho⟩, hκ, h55, ⟨huk, hm0, hMu, by rw [(fA uk).1]; exact u188, by rw [(fA uk).2.1]; exact u189⟩, ⟨by rw [(fA uk).2.2.1]; exact alt_same (fun v hv => ⟨hv, (fA v).2.1, (fA v).2.2.2.1, (fA v).2.2.2.2⟩) bl _ hal, hnd1, hnd2⟩, hus, fun e he => by
    obtain ⟨y4, y5, y6, y7, y8⟩ := hbl e he
    exact ⟨y4, y5, y6, pr_sm hT hS (fun v hv => ⟨hv, fA v⟩) (fun v hv => hv) (fun v hv => hv) (Nat.le_refl _) y7, y8⟩, hmm, hpg', by omega, hwd, hcw.trans (cQ_cW hk0 (cf_cQ a)), hrp.trans (rf_rP c) (Nat.le_refl md0) (Nat.le_refl nest), hlk⟩
theorem cai_loop {Rc Rc2 : sc_3readAlternativeT} {R : sc_12actT} (hRc : Rc.1 = bX3_readAlternative Rc2) (hP : HP k h M n D F bs b (nest + 1) Rc2.2.2.2.2 R.2.2.2) (hcc : ∀ f p b I x, PF k f p b I → Rc2.2.2.2.2 I F x = some (-1, I)) (hs : S[i]? = some s) (hs2 : s.1 = 2) (hk : gI (L0 (k + 2)) s.2.2.2.1 = nI kd) (hkd : kd = 43 ∨ kd = 38) (x3 x4 : Int32) : ∀ (d : Nat) (bl : List Alt) (I B : iT) (J : jT) (L : lT) (t : Tok) (r : List Tok) (md wd : Nat) (a6 a8 a0 : List Int32) (mm m1 m2 : Nat) (x6 : Int32), bl.length + d = 7 → d ≤ m1 → d ≤ m2 → CR I B J bs t r → CAi k h M n D F nest b S i s f brs κ uk I0 B0 J0 L0 P0 md0 wd0 s6 s8 s0 I B J L t.2.2 md wd a6 a8 a0 bl mm 1 → ((bl = [] ∧ x6 = -1) ∨ ∃ et, bl.getLast? = some et ∧ x6 = nI et.1) →
    (∃ x I' B' J', mX3_readCase_119 Rc m1 I F (nI nest) (nI κ) x3 x4 (nI brs.length) (nI (minA bl)) (nI bl.length) (nI bl.length) = some (x, I') ∧ mX12_cases_77 R (mX12_cases_67 R m2) B J (nI (sg n i)) (nI s.2.2.1) (nI uk) (nI (nest + 1)) (nI S.length) x6 = some (0, B', J') ∧ PL k h (b + 1) I0 B0 J0 I' B' J') ∨
    (∃ (bl' : List Alt) (I' B' : iT) (J' : jT) (t' : Tok) (r' : List Tok) (L' : lT) (md' wd' : Nat) (d6 d8 d0 : List Int32) (mm' : Nat), mX3_readCase_119 Rc m1 I F (nI nest) (nI κ) x3 x4 (nI brs.length) (nI (minA bl)) (nI bl.length) (nI bl.length) = some (nI (minA bl'), I') ∧ mX12_cases_77 R (mX12_cases_67 R m2) B J (nI (sg n i)) (nI s.2.2.1) (nI uk) (nI (nest + 1)) (nI S.length) x6 = some (1, a_u2 B' 186 49 (nI uk), J') ∧ CR I' B' J' bs t' r' ∧ CAi k h M n D F nest b S i s f brs κ uk I0 B0 J0 L0 P0 md0 wd0 s6 s8 s0 I' B' J' L' t'.2.2 md' wd' d6 d8 d0 bl' mm' 1 ∧ brs.length ≤ bl'.length) := by
  intro d
  induction d with
  | zero =>
    intro bl I B J L t r md wd a6 a8 a0 mm m1 m2 x6 hd _ _ _ H _
    have := cai_len H
    omega
  | succ d ih =>
    intro bl I B J L t r md wd a6 a8 a0 mm m1 m2 x6 hd hm1 hm2 hC H hx6
    obtain ⟨m1, rfl⟩ : ∃ y, m1 = y + 1 := ⟨m1 - 1, by omega⟩
    have hln := cai_len H
    have hbb := H.1.1.2.2.2.2.2.2.2.2.2.2.2.2
    have e119 : mX3_readCase_119 Rc (m1 + 1) I F (nI nest) (nI κ) x3 x4 (nI brs.length) (nI (minA bl)) (nI bl.length) (nI bl.length) = (bX3_readAlternative Rc2 I F (nI κ) (nI (nest + 1))).bind fun q5 => csC Rc m1 q5.2 F (nI nest) (nI κ) x3 x4 (nI brs.length) (if q5.1 < nI (minA bl) then q5.1 else nI (minA bl)) (nI (bl.length + 1)) (nI bl.length) := by
      rw [mX3_readCase_119, if_neg (show ¬ (6 : Int32) < nI bl.length from nI_nlt (a := 6) (by omega) (by omega)), cr_failed hC, sb, if_pos rfl, hRc]
      unfold csC
      simp only [nI_1]
    rw [e119]
    rcases cai_step (K := mX12_cases_67 R m2) hP hcc hs hs2 hk hkd hC H x6 hx6 with ⟨x, I', B', J', e1, e2, e3⟩ | ⟨eN, I', B', J', t', r', L', md', d6, d8, d0, wd', mm', y7, e1, e2, e3, e4, e5, e6⟩
    · left
      obtain ⟨x2, I2, a1, a2⟩ := pfo_PL e3 (c' := b + 1) (fun f p hf => pf_csC (Rc := Rc) (F := F) hf m1 (nI nest) (nI κ) x3 x4 (nI brs.length) (if x < nI (minA bl) then x else nI (minA bl)) (nI (bl.length + 1)) (nI bl.length))
      exact ⟨x2, I2, B', J', by rw [e1, sb]; exact a1, e2, a2⟩
    · have hmA := minA_snoc bl eN
      have emin : (if nI eN.2.2.2.2.2.2 < nI (minA bl) then nI eN.2.2.2.2.2.2 else nI (minA bl)) = nI (minA (bl ++ [eN])) := by
        rw [hmA.1]
        rcases Nat.lt_or_ge eN.2.2.2.2.2.2 (minA bl) with x | x
        · rw [if_pos (nI_lt x (by omega)), Nat.min_eq_right (by omega)]
        · rw [if_neg (nI_nlt x (by omega)), Nat.min_eq_left (by omega)]
      have hlen : (bl ++ [eN]).length = bl.length + 1 := by rw [List.length_append]; rfl
      rw [e1, sb, e2]
      show (∃ x I' B' J', csC Rc m1 _ F (nI nest) (nI κ) x3 x4 (nI brs.length) (if nI eN.2.2.2.2.2.2 < nI (minA bl) then nI eN.2.2.2.2.2.2 else nI (minA bl)) (nI (bl.length + 1)) (nI bl.length) = some (x, I') ∧ _ ∧ _) ∨ (∃ (bl' : List Alt) (I' B' : iT) (J' : jT) (t' : Tok) (r' : List Tok) (L' : lT) (md' wd' : Nat) (d6 d8 d0 : List Int32) (mm' : Nat), csC Rc m1 _ F (nI nest) (nI κ) x3 x4 (nI brs.length) (if nI eN.2.2.2.2.2.2 < nI (minA bl) then nI eN.2.2.2.2.2.2 else nI (minA bl)) (nI (bl.length + 1)) (nI bl.length) = some (nI (minA bl'), I') ∧ _)
      rw [emin]
      have s124 : mX12_isSign B' 124 = some (if t'.1 = 124 then 1 else 0) := cr_sign e3 124 (by omega)
      have s125 : mX12_isSign B' 125 = some (if t'.1 = 125 then 1 else 0) := cr_sign e3 125 (by omega)
      have c124 : I' 6 6 = 124 ↔ t'.1 = 124 := cr_c e3 124 (by omega)
      have c125 : I' 6 6 = 125 ↔ t'.1 = 125 := cr_c e3 125 (by omega)
      have i125 : mX2_is I' 125 = some (if t'.1 = 125 then 1 else 0) := cr_is e3 125 (by omega)
      have hln' := cai_len e6
      rw [hlen] at hln'
      by_cases q4 : t'.1 = 124
      · obtain ⟨u, r1, I1, B1, J1, k1, k2, k3, k4, k5, k6, k7⟩ := jadv e3 (by omega)
        have htl : tl t'.1 = 1 := by rw [q4]; decide
        rw [htl] at k5
        obtain ⟨m2, rfl⟩ : ∃ y, m2 = y + 1 := ⟨m2 - 1, by omega⟩
        have H1 := cai_cur hs hs2 e6 k6 k7 (P' := u.2.2) (by omega)
        have eC : csC Rc m1 I' F (nI nest) (nI κ) x3 x4 (nI brs.length) (nI (minA (bl ++ [eN]))) (nI (bl.length + 1)) (nI bl.length) = mX3_readCase_119 Rc m1 I1 F (nI nest) (nI κ) x3 x4 (nI brs.length) (nI (minA (bl ++ [eN]))) (nI (bl ++ [eN]).length) (nI (bl ++ [eN]).length) := by
          unfold csC mX2_skip
          rw [if_pos (c124.mpr q4), k2, sb, sb, if_neg i10, nI_1, hlen]
        have eR : mX12_cases_273 R (mX12_cases_67 R (m2 + 1)) B' J' (nI (sg n i)) (nI s.2.2.1) (nI uk) (nI (nest + 1)) (nI S.length) x6 y7 (nI eN.1) = mX12_cases_77 R (mX12_cases_67 R m2) B1 J1 (nI (sg n i)) (nI s.2.2.1) (nI uk) (nI (nest + 1)) (nI S.length) (nI eN.1) := by
          unfold mX12_cases_273
          rw [s124, sb, if_pos q4, if_neg i10, mX12_cases_67, if_neg (nIm (by omega)), k3, sb]
        rw [eC, eR]
        exact ih (bl ++ [eN]) I1 B1 J1 L' u r1 md' wd' d6 d8 d0 mm' m1 m2 (nI eN.1) (by omega) (by omega) (by omega) k4 H1 (Or.inr ⟨eN, List.getLast?_concat .., rfl⟩)
      · have eC : csC Rc m1 I' F (nI nest) (nI κ) x3 x4 (nI brs.length) (nI (minA (bl ++ [eN]))) (nI (bl.length + 1)) (nI bl.length) = mX3_readCase_175 Rc I' F (nI nest) (nI κ) x3 x4 (nI brs.length) (nI (minA (bl ++ [eN]))) (nI (bl.length + 1)) (nI bl.length) := by
          unfold csC mX2_skip
          rw [if_neg (fun z => q4 (c124.mp z)), sb, if_pos rfl]
        rw [eC]
        by_cases q5 : t'.1 = 125
        · have huk28 : uk < 2800 := by
            have h1 := e6.2.2.2.1
            have h2 := e6.1.1.2.2.2.2.2.2.1
            have h3 := cr_end e3
            have h4 := e6.1.2.2.2.1
            omega
          have hsn := e6.1.2.2.2.2.1
          have eR : mX12_cases_273 R (mX12_cases_67 R m2) B' J' (nI (sg n i)) (nI s.2.2.1) (nI uk) (nI (nest + 1)) (nI S.length) x6 y7 (nI eN.1) = csE B' J' (nI uk) (dcr brs (nI (bl.length + 1))) := by
            unfold mX12_cases_273
            rw [s124, sb, if_neg q4, if_pos rfl, s125, sb, if_pos q5, if_neg i10, if_pos (in28 huk28), congrArg (B' 190) (cl28 huk28)]
            have := cnt_ok (R := R) (x1 := nI (sg n i)) (x2 := nI s.2.2.1) (x3 := nI uk) (x4 := nI (nest + 1)) (x5 := nI S.length) (x6 := nI eN.1) (bl ++ [eN]) _ LF 0 e6.2.2.2.2.1.1 (by unfold LF; omega)
            rw [nI_0] at this
            rw [this, if_pos (in28 hsn), congrArg (B' 189) (cl28 hsn), Nat.zero_add, hlen]
            exact sub_ok brs _ LF _ e6.1.2.2.2.2.2.2.2.2.2.2.2.1 (by unfold LF; omega)
          have hdc := dcr_ok brs hln'.2 (bl.length + 1) (by omega)
          rw [eR]
          rcases Nat.lt_or_ge (bl.length + 1) brs.length with w | w
          · -- one is missing
            left
            obtain ⟨I9, B9, b1, b2, b3, b4⟩ := jbad e3 e6.1.1.1 h (f := 3) (by decide) (nI t'.2.2)
            have hpl : PL k h (b + 1) I0 B0 J0 I9 B9 J' := PL.pre (cW_FQ e6.2.2.2.2.2.2.2.2.2.2.2.1) (rP_RX e6.2.2.2.2.2.2.2.2.2.2.2.2.1) ((fail_PL b3 (pu_scp e6.1.1) (by omega)).mono (Nat.le_succ b) (by omega))
            obtain ⟨x2, I2, a1, a2⟩ := pfo_PL hpl (c' := b + 1) (o := mX3_readCase_209 Rc I9 F (nI nest) (nI κ) x3 x4 (nI brs.length) (nI (minA (bl ++ [eN]))) (nI (bl.length + 1)) (nI bl.length)) (fun f p hf => by
              unfold mX3_readCase_209
              rw [fm_want hf.1 (by decide), sb]
              exact pfo_ret hf _)
            refine ⟨x2, I2, B9, J', ?_, ?_, a2⟩
            · unfold mX3_readCase_175
              rw [i125, sb, if_pos q5, if_neg i10, if_neg (nI_ge w (by omega)), cr_8 e3, b1, sb]
              exact a1
            · unfold csE
              rw [if_neg (fun z => by have := hdc.mp z; omega), cr_4 e3]
              exact rBad_ok b2
          · right
            obtain ⟨u, r1, I1, B1, J1, k1, k2, k3, k4, k5, k6, k7⟩ := jadv e3 (by omega)
            have htl : tl t'.1 = 1 := by rw [q5]; decide
            rw [htl] at k5
            have H1 := cai_cur hs hs2 e6 k6 k7 (P' := u.2.2) (by omega)
            refine ⟨bl ++ [eN], I1, B1, J1, u, r1, L', md', wd', d6, d8, d0, mm', ?_, ?_, k4, H1, by omega⟩
            · unfold mX3_readCase_175 mX3_readCase_209 mX2_want
              rw [i125, sb, if_pos q5, if_neg i10, if_pos (nI_le w (by omega)), if_pos (c125.mpr q5), k2, sb, sb]
            · unfold csE
              rw [if_pos (hdc.mpr w), k3, sb]
        · left
          obtain ⟨I9, B9, b1, b2, b3, b4⟩ := jbad e3 e6.1.1.1 h (f := 1) (by decide) (nI t'.2.2)
          have hpl : PL k h (b + 1) I0 B0 J0 I9 B9 J' := PL.pre (cW_FQ e6.2.2.2.2.2.2.2.2.2.2.2.1) (rP_RX e6.2.2.2.2.2.2.2.2.2.2.2.2.1) ((fail_PL b3 (pu_scp e6.1.1) (by omega)).mono (Nat.le_succ b) (by omega))
          refine ⟨nI (minA (bl ++ [eN])), I9, B9, J', ?_, ?_, hpl⟩
          · unfold mX3_readCase_175 mX3_readCase_209 mX2_want
            rw [i125, sb, if_neg q5, if_pos rfl, if_neg (fun z => q5 (c125.mp z)), cr_8 e3, b1, sb, sb]
          · unfold mX12_cases_273
            rw [s124, sb, if_neg q4, if_pos rfl, s125, sb, if_neg q5, if_pos rfl, cr_4 e3]
            exact rBad_ok b2
end
