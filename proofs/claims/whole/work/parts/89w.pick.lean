/-! PICK (pure) -/
section
variable {k h M n : Nat} {D : List Df} {F : fT} {I B : iT} {J : jT} {L : lT} {bs : List Nat} {t : Tok} {r : List Tok} {P md nest wd b z : Nat} {S : List Sl} {a6 a8 a0 : List Int32}
theorem pf_pickR {f p : Int32} (hF : F 134 4 = k) (hp : PF k f p b I) (hT : TB k I) (x1 x2 x3 x4 : Int32) : PFo k f p b I ((mX10_findBranch (k + 1) I x2 x4).bind fun q4 => if q4 = -1 then (mX2_refuse I 3 x3).bind fun q5 => mX3_readPicked_47 q5 F x1 x2 x3 x4 q4 else mX3_readPicked_47 I F x1 x2 x3 x4 q4) := by
  obtain ⟨L, hL, hL2⟩ := hT
  refine pfo_r (fb_any hL hL2 _ _) (fun v => ?_)
  rw [fm_refuse hp.1, sb]
  exact pfo_if (pf_47 hF hp _ _ _ _ _) (pf_47 hF hp _ _ _ _ _)
theorem st_pick (R : sc_12actT) (hC : CR I B J bs t r) (H : PS k h M n D F I B J L t.2.2 md nest S a6 a8 a0 wd b 0) (q : t.1 = 307) (x2 : Int32) : SO k h M n D F I B J L bs t.2.2 md nest S a6 a8 a0 wd b (mX3_readTalk I F 307 x2) (bX12_act R B J 107) := by
  have hk0 := H.1.1.1
  have hF := H.2.1.1
  have hnod := H.2.2.1
  have bb := H.1.2.2.2.2.2.2.2
  have bn := H.2.2.2.2.2.1
  have hbb := H.2.2.2.2.2.2.2.2
  have htl : tl 307 = 4 := by decide
  have hh := H.1.2.2.2.2.1.1
  have hlen : (L (k + 47)).length < 2 ^ 31 := by
    have := cr_end hC
    omega
  obtain ⟨B2, J2, e3, HO⟩ := tk_ok hC H (w := 307) (gc := 6) (hc := 7) (gk := 43) (hk := 38) (Or.inr (Or.inr (Or.inr (Or.inr (Or.inr (Or.inr (Or.inl ⟨rfl, rfl, rfl, rfl, rfl⟩))))))) q x2
  have eR : bX12_act R B J 107 = (mX12_aChannel B2 J2 6 7).bind fun q19 => if q19.1 = 0 then some (0, q19.2.1, q19.2.2) else if (q19.2.1 186 3) = 2 then if inb (q19.2.1 186 48) 128 then (mX12_branch q19.2.1 q19.2.2 (q19.2.1 209 (q19.2.1 186 48).toNatClampNeg) (q19.2.2 186 6)).bind fun q20 => if q20 = ((-1)) then (mX12_bad q19.2.1 3 (q19.2.1 186 4)).bind fun q23 => if q23.1 = 0 ∨ q23.1 = 1 then some (q23.1, q23.2, q19.2.2) else none else if inb q20 2800 then if inb (q19.2.1 186 48) 128 then (mX12_node (a_u2 q19.2.1 209 (q19.2.1 186 48).toNatClampNeg (q19.2.1 189 q20.toNatClampNeg)) q19.2.2 46 ((a_u2 q19.2.1 209 (q19.2.1 186 48).toNatClampNeg (q19.2.1 189 q20.toNatClampNeg)) 186 48) ((-1)) (q19.2.2 186 6)).bind fun q21 => (mX12_look0 (a_u2 q21.2.1 186 49 q21.1) q21.2.2).bind fun q22 => some (1, q22.1, q22.2) else none else none else none else (mX12_bad q19.2.1 1 (q19.2.1 186 4)).bind fun q24 => if q24.1 = 0 ∨ q24.1 = 1 then some (q24.1, q24.2, q19.2.2) else none := by
    unfold bX12_act
    rw [if_neg (by decide), if_neg (by decide), e3, sb]
    rfl
  rw [eR]
  rcases HO with ⟨I', B3, J3, c1, c2, c3⟩ | ⟨i, s, kd, wc, I7, B3, J3, t3, r3, L7, d1, d2, d3, d4, d5, d6, d7, d8, d9, d10, d11, d12, d13, d14, d15, d16, d17⟩
  · exact ⟨I', 0, B3, J3, c1, by rw [c2, sb, if_pos rfl], Or.inl ⟨rfl, c3⟩⟩
  · have d7' : mX3_readTalk I F 307 x2 = (mX2_takeName I7).bind fun q3 => ((mX10_findBranch (k + 1) q3.2 (nI s.2.2.2.1) q3.1).bind fun q4 => if q4 = -1 then (mX2_refuse q3.2 3 (nI t3.2.2)).bind fun q5 => mX3_readPicked_47 q5 F (nI (L (k + 47)).length) (nI s.2.2.2.1) (nI t3.2.2) q3.1 q4 else mX3_readPicked_47 q3.2 F (nI (L (k + 47)).length) (nI s.2.2.2.1) (nI t3.2.2) q3.1 q4).bind fun q13 => mX3_readTalk_229 q13.2 F 307 x2 (nI (L (k + 47)).length) (nI i) (nI s.2.2.2.1) q13.1 := by
      show mX3_readTalk I F (nI 307) x2 = _
      rw [d7]
      unfold tkR
      rw [if_neg (by decide), if_neg (by decide), if_pos (by decide)]
      unfold mX3_readPicked
      rw [hF, cr_8 d9]
      cases mX2_takeName I7 with
      | none => rfl
      | some a => rfl
    have hsr := d10.1.2.2.2.2.2.1
    obtain ⟨y1, y2, y3⟩ := (hsr.2.2.1 i s d1).2.2.2.2 d2
    have hil : i < S.length := (List.getElem?_eq_some_iff.mp d1).1
    have hu := tr_u y3
    have hK := rs_K d10.1.1
    have hN5 := len10 d10.1.1
    have hkd : kd = 43 ∨ kd = 38 := by
      unfold KW kw6 at d3
      by_cases z : i = 0
      · rw [if_pos z] at d6
        exact Or.inl ((nI_eq (a := kd) (b := 43) (by omega) (by omega)).mp d6)
      · rw [if_neg z] at d6
        exact Or.inr ((nI_eq (a := kd) (b := 38) (by omega) (by omega)).mp d6)
    have hkL7 : gI (L7 (k + 2)) s.2.2.2.1 = nI kd := by rw [d12 _ (by omega)]; exact d4
    obtain ⟨f, bl, hCH⟩ := tr_cho y3 y2 hkL7 hkd
    rw [d8, sb, if_neg i10]
    have c128 := cl128 (show sg n i < 128 by omega)
    have i128' : inb (nI (sg n i)) 128 := in128 (by omega)
    show SO k h M n D F I B J L bs t.2.2 md nest S a6 a8 a0 wd b _ (if (B3 186 3) = 2 then if inb (B3 186 48) 128 then (mX12_branch B3 J3 (B3 209 (B3 186 48).toNatClampNeg) (J3 186 6)).bind fun q20 => if q20 = ((-1)) then (mX12_bad B3 3 (B3 186 4)).bind fun q23 => if q23.1 = 0 ∨ q23.1 = 1 then some (q23.1, q23.2, J3) else none else if inb q20 2800 then if inb (B3 186 48) 128 then (mX12_node (a_u2 B3 209 (B3 186 48).toNatClampNeg (B3 189 q20.toNatClampNeg)) J3 46 ((a_u2 B3 209 (B3 186 48).toNatClampNeg (B3 189 q20.toNatClampNeg)) 186 48) ((-1)) (J3 186 6)).bind fun q21 => (mX12_look0 (a_u2 q21.2.1 186 49 q21.1) q21.2.2).bind fun q22 => some (1, q22.1, q22.2) else none else none else none else (mX12_bad B3 1 (B3 186 4)).bind fun q24 => if q24.1 = 0 ∨ q24.1 = 1 then some (q24.1, q24.2, J3) else none)
    have er : B3 186 3 = 2 ↔ t3.1 = 256 := cr_r d9 256 (by decide)
    have ec : I7 6 6 = 256 ↔ t3.1 = 256 := cr_c d9 256 (by omega)
    have hP3 := cr_end d9
    by_cases q2 : t3.1 = 256
    · have hwN : isN t3.2.1 := (cr_wf d9).2.1 q2
      have hval : I7 6 7 = nI (cN t3.2.1) := d9.1.2.2.1.1 q2
      have hJ6 : J3 186 6 = lN (rN t3.2.1) := d9.2.1.2.2.2.1 q2
      obtain ⟨u8, r8, I8, B8', J8', k1, k2, k3, k4, k5, k6, k7⟩ := jadv d9 (by omega)
      have eT : mX2_takeName I7 = some (nI (cN t3.2.1), I8) := by
        unfold mX2_takeName
        rw [if_pos (ec.mpr q2), k2, sb, hval]
      have hR8 := cf_RS k6 d10.1.1
      rw [if_pos (er.mpr q2), d13, if_pos i128', congrArg (B3 209) c128, y1, hJ6]
      rcases cho_find hR8 hCH hkL7 hkd hwN with ⟨j, e, x1, x2', x3, x4⟩ | ⟨x1, x2', x3⟩
      · obtain ⟨g1, g2, g3, g4, g5, g6, g7, g8, g9, g10⟩ := hCH
        obtain ⟨v1, v2, v3, v4, v5, v6⟩ := g10 j e x1
        have hce := chain_get bl _ g8 e (List.mem_of_getElem? x1)
        have hjl := (List.getElem?_eq_some_iff.mp x1).1
        have H8 := ps_cur d10 k6 (rf_rfl (B := B3) (J := J3)) (Nat.le_refl _)
        obtain ⟨I9, p1, p2, p3⟩ := ps_put H8 (a := k + 51) (by omega) (j := (L (k + 47)).length) hlen (nI (cN t3.2.1))
        have hLs : ∀ a, a ≠ k + 51 → upL L7 (k + 51) ((L7 (k + 51)).set (L (k + 47)).length (nI (cN t3.2.1))) a = L7 a := fun a w => upL_n _ _ w
        have hTR' : TR k (upL L7 (k + 51) ((L7 (k + 51)).set (L (k + 47)).length (nI (cN t3.2.1)))) B3 J3 (fun v => 1400 * h ≤ v ∧ v < M) e.2.2.2.2 e.2.2.1 e.2.2.2.1 e.2.2.2.2 := tr_to d10.1.2.2.1 (TE_eq (fun a q1 q2 => hLs a (by omega))) (fun v _ => ⟨rfl, rfl, rfl, rfl, rfl⟩) (fun v hv => hv) _ _ _ _ _ (Nat.le_refl _) v6
        obtain ⟨I10, s1, H10, s3⟩ := ps_set p2 d1 d2 v5 hTR'
        obtain ⟨B5, J5, m1, m2, m3, m4, m5, m6, m7, m8, m9, m10⟩ := ps_rnode H10 (by omega) (by omega) 46 (nI (sg n i)) (-1) (lN (rN t3.2.1))
        have H6 := ps_49 m2 49 (by omega) (nI (1400 * h + md))
        have hC6 : CR I7 (a_u2 B5 186 49 (nI (1400 * h + md))) J5 bs t3 r3 := CR_B d9 (fun j _ _ => by rw [a_u2_n _ _ (by omega), m9 _ _ (by omega) (by omega), a_u2_n _ _ (by omega)]) (funext fun j => by rw [a_u2_n _ _ (by omega), m9 _ _ (by omega) (by omega), a_u2_n _ _ (by omega)]) (m10 _ _ (by omega))
        obtain ⟨u9, r9, I8b, B9, J9, z1, z2, z3, z4, z5, z6, z7⟩ := jadv hC6 (by omega)
        have eI : I8b = I8 := Option.some.inj (z2.symm.trans k2)
        subst eI
        have htl2 : tl t3.1 = 1 := by rw [q2]; decide
        rw [htl2] at z5
        have fI : ∀ q, ¬ (136 ≤ q ∧ q ≤ 141) → ¬ (k + 47 ≤ q ∧ q ≤ k + 58) → I10 q = I8b q := fun q w1 w2 => by rw [s3 q (by omega), p3 q (by omega)]
        have hC9 : CR I10 B9 J9 bs u9 r9 := CR_I z4 (fI 6 (by omega) (by omega)) (fI 9 (by omega) (by omega)) (fI 10 (by omega) (by omega)) (fI 11 (by omega) (by omega))
        have HF := ps_cur H6 (cf_rfl (I := I10)) z7 (P' := u9.2.2) (by omega)
        have hng := ng_51 hnod d11 (nI (cN t3.2.1))
        have hg := ng_g hnod hng
        refine ⟨I10, 1, B9, J9, ?_, ?_, Or.inr ⟨rfl, sg_of hnod hng hC9 HF (by omega) (by omega) (by rw [hLs _ (by omega), d12 _ (by omega)]; omega) (by omega) (by omega) (by rw [hLs _ (by omega), d12 _ (by omega)]; omega) (u := 1400 * h + md) (by rw [z7.1 _ _ (by omega), a_u2_s]) (by omega) (by omega) (by rw [z7.1 _ _ (by omega), a_u2_n _ _ (by omega)]; exact m6) ⟨by omega, by omega, ⟨Nat.le_refl _, by omega⟩, Or.inr (Or.inr (Or.inr (Or.inr (Or.inr (Or.inl ⟨i, s.2.2.2.1, f, bl.length, j, t3.2.1, e.2.2.2.1, by rw [z7.1 _ _ (by omega), a_u2_n _ _ (by omega)]; exact m3, hg.1, by rw [z7.1 _ _ (by omega), a_u2_n _ _ (by omega)]; exact m4, hg.2.1, by rw [gm_get d1, d2], by rw [hLs _ (by omega), hkL7]; exact d6, by rw [hLs _ (by omega)]; exact g3, by rw [hLs _ (by omega)]; exact g4, ⟨hjl, g6, by have w1 := (tr_u v6).2.2; omega⟩, by rw [hLs _ (by omega), v3, x2'], by rw [hLs _ (by omega)]; exact v4, hwN, by rw [z7.2 _ _ (by omega)]; exact m7, hg.2.2.1, by rw [gm_set]⟩)))))⟩ (d16.trans ((cf_cQ z6).trans (fun c w1 w2 w3 => fI c (by omega) (by omega)))) ((((d17.trans (rP_209 (sg n i) (nI e.2.2.1)) (Nat.le_refl md) (Nat.le_refl nest)).trans (rS_rP m8) (Nat.le_refl md) (Nat.le_refl nest)).trans (rP_sc (by omega) _) (Nat.le_refl md) (Nat.le_refl nest)).trans (rf_rP z7) (Nat.le_refl md) (Nat.le_refl nest)) (by repeat (first | exact lk_rfl | apply lk_6 | apply lk_8 | apply lk_0))⟩⟩
        · rw [d7', eT, sb]
          show (((mX10_findBranch (k + 1) I8b (nI s.2.2.2.1) (nI (cN t3.2.1))).bind fun q4 => if q4 = -1 then (mX2_refuse I8b 3 (nI t3.2.2)).bind fun q5 => mX3_readPicked_47 q5 F (nI (L (k + 47)).length) (nI s.2.2.2.1) (nI t3.2.2) (nI (cN t3.2.1)) q4 else mX3_readPicked_47 I8b F (nI (L (k + 47)).length) (nI s.2.2.2.1) (nI t3.2.2) (nI (cN t3.2.1)) q4).bind fun q13 => mX3_readTalk_229 q13.2 F 307 x2 (nI (L (k + 47)).length) (nI i) (nI s.2.2.2.1) q13.1) = _
          rw [x3, sb, if_neg (nIm (by omega))]
          unfold mX3_readPicked_47
          have e12 : mX10_branchT (k + 1) I9 (nI s.2.2.2.1) (nI j) = some (nI e.2.2.2.1) := by
            rw [bt_c p2.1.1 (by omega) (f := f) (by rw [hLs _ (by omega)]; exact g3) j (by omega), hLs _ (by omega), v4]
          rw [hF, p1, sb, e12, sb, sb]
          unfold mX3_readTalk_229
          rw [s1, sb]
        · rw [x4, sb, if_neg (nIm (by omega)), if_pos (in28 hce.1), if_pos i128', c128, cl28 hce.1, hce.2.2.1, a_u2_n _ _ (by omega), d13, m1, sb]
          show ((mX12_look0 (a_u2 B5 186 49 (nI (1400 * h + md))) J5).bind fun q22 => some (1, q22.1, q22.2)) = _
          rw [z3, sb]
      · obtain ⟨I9, B9, a1, a2, a3⟩ := jbad2 d9 hR8 (cr_9 k4) (cf_FX k6) h (f := 3) (by decide) (nI t3.2.2)
        obtain ⟨I', b1, b2⟩ := pfu_PL (PL.pre (cQ_FQ d16) (rP_RX d17) (fail_PL a3 (ps_scp d10) (by omega))) (c' := b + 1) (o := (mX3_readPicked_47 I9 F (nI (L (k + 47)).length) (nI s.2.2.2.1) (nI t3.2.2) (nI (cN t3.2.1)) (-1)).bind fun q13 => mX3_readTalk_229 q13.2 F 307 x2 (nI (L (k + 47)).length) (nI i) (nI s.2.2.2.1) q13.1) (fun f p hf => pfu_mono (pfu_o (pf_47 hF hf _ _ _ _ _) (fun x I1 h1 => pf_229 h1 _ _ _ _ _ _)) (Nat.le_succ b) (by omega))
        refine ⟨I', 0, B9, J3, ?_, ?_, Or.inl ⟨rfl, b2⟩⟩
        · rw [d7', eT, sb]
          show (((mX10_findBranch (k + 1) I8 (nI s.2.2.2.1) (nI (cN t3.2.1))).bind fun q4 => if q4 = -1 then (mX2_refuse I8 3 (nI t3.2.2)).bind fun q5 => mX3_readPicked_47 q5 F (nI (L (k + 47)).length) (nI s.2.2.2.1) (nI t3.2.2) (nI (cN t3.2.1)) q4 else mX3_readPicked_47 I8 F (nI (L (k + 47)).length) (nI s.2.2.2.1) (nI t3.2.2) (nI (cN t3.2.1)) q4).bind fun q13 => mX3_readTalk_229 q13.2 F 307 x2 (nI (L (k + 47)).length) (nI i) (nI s.2.2.2.1) q13.1) = _
          rw [x2', sb, if_pos rfl, a1, sb]
          exact b1
        · rw [x3, sb, if_pos rfl, cr_4 d9, a2, sb, if_pos (Or.inl rfl)]
    · obtain ⟨I9, B9, a1, a2, a3, a4⟩ := jbad d9 d10.1.1 h (f := 1) (by decide) (nI t3.2.2)
      have eT : mX2_takeName I7 = some (0, I9) := by
        unfold mX2_takeName
        rw [if_neg (fun z => q2 (ec.mp z)), cr_8 d9, a1, sb]
      obtain ⟨I', b1, b2⟩ := pfu_PL (PL.pre (cQ_FQ d16) (rP_RX d17) (fail_PL a3 (ps_scp d10) (by omega))) (c' := b + 1) (o := ((mX10_findBranch (k + 1) I9 (nI s.2.2.2.1) 0).bind fun q4 => if q4 = -1 then (mX2_refuse I9 3 (nI t3.2.2)).bind fun q5 => mX3_readPicked_47 q5 F (nI (L (k + 47)).length) (nI s.2.2.2.1) (nI t3.2.2) 0 q4 else mX3_readPicked_47 I9 F (nI (L (k + 47)).length) (nI s.2.2.2.1) (nI t3.2.2) 0 q4).bind fun q13 => mX3_readTalk_229 q13.2 F 307 x2 (nI (L (k + 47)).length) (nI i) (nI s.2.2.2.1) q13.1) (fun f p hf => pfu_mono (pfu_o (pf_pickR hF hf (tb_keep d10.1.1 d10.1.2.2.1 hf.1 (fun a w1 w2 => a4 a (by omega))) _ _ _ _) (fun x I1 h1 => pf_229 h1 _ _ _ _ _ _)) (Nat.le_succ b) (by omega))
      refine ⟨I', 0, B9, J3, by rw [d7', eT, sb]; exact b1, ?_, Or.inl ⟨rfl, b2⟩⟩
      rw [if_neg (fun z => q2 (er.mp z)), cr_4 d9, a2, sb, if_pos (Or.inl rfl)]
end
