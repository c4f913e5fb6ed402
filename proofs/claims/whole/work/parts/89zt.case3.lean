/-! CASE (pure): the whole -/
section
variable {k h M n : Nat} {D : List Df} {F : fT} {I B : iT} {J : jT} {L : lT} {bs : List Nat} {t : Tok} {r : List Tok} {P md nest wd b z : Nat} {S : List Sl} {a6 a8 a0 c6 c8 c0 : List Int32}
theorem kw_kd {kd wc i : Nat} (h : KW kd wc) (hk : nI kd = (if i = 0 then 38 else 43)) : kd = 43 ∨ kd = 38 := by
  have hl : kd < 1000 := by
    unfold KW kw6 at h
    omega
  by_cases q : i = 0
  · rw [if_pos q] at hk
    exact Or.inr ((nI_eq (b := 38) (by omega) (by omega)).mp hk)
  · rw [if_neg q] at hk
    exact Or.inl ((nI_eq (b := 43) (by omega) (by omega)).mp hk)
/-- the class's rows behind the CHANNEL of a case -/
theorem ca_head {Rc : sc_3readAlternativeT} (hN : nodL k L) (H : PT k h M n D F I B J (ad4 k L (nI 308)) P md (nest + 1) nest S a6 a8 a0 wd b 4) {i : Nat} {s : Sl} (hs : S[i]? = some s) (hs2 : s.1 = 2) {kd f : Nat} {brs : List Br} (hk : gI (L (k + 2)) s.2.2.2.1 = nI kd) (hkd : kd = 43 ∨ kd = 38) (hcho : CHO k (ad4 k L (nI 308)) B J (fun v => 1400 * h ≤ v ∧ v < M) s.2.2.1 s.2.2.2.1 f brs) (h55 : 3 * (L (k + 55)).length ≤ P + 18 * nest) (hP : P ≤ 1000) (hn8 : nest < 8) : ∃ I', caB Rc k I F (nI nest) (nI (L (k + 47)).length) (nI i) = caC Rc k I' F (nI nest) (nI (L (k + 47)).length) (nI i) (nI s.2.2.2.1) (nI brs.length) ∧ PT k h M n D F I' B J (caL k L i f brs.length) P md (nest + 1) nest S a6 a8 a0 wd b 4 ∧ (∀ q, ¬ (k + 47 ≤ q ∧ q ≤ k + 58) → I' q = I q) := by
  have hk0 := H.1.1.1
  have hsr := H.1.2.2.2.2.2.1
  have hb := H.2.2.2.2.2.1
  obtain ⟨z1, z2, z3, z4, z5, z6, z7⟩ := lenN hk0
  have hK := rs_K H.1.1
  have h10 := len10 H.1.1
  have ht : s.2.2.2.1 < 2 ^ 31 := by have := hcho.2.1; omega
  have hb6 := hcho.2.2.2.2.2.1
  have hfl := hcho.2.2.2.2.2.2.1
  have hn2 : ∀ a, ¬ (k + 47 ≤ a ∧ a ≤ k + 53) → ad4 k L (nI 308) a = L a := fun a q => ad4_n _ (by omega)
  have hk' : gI (ad4 k L (nI 308) (k + 2)) s.2.2.2.1 = nI kd := by rw [hn2 _ (by omega)]; exact hk
  have tlk : mX5_talkAt I (nI i) = some (nI s.2.2.2.1) := by rw [sr_talk hsr hs, if_pos hs2]
  have ebr := brs_c H.1.1 ht hk' hkd hcho.2.2.2.1
  have hb4 := hb.1
  rw [ad4_47, List.length_append] at hb4
  have hb4 : 4 * ((L (k + 47)).length + 1) ≤ P + 4 := hb4
  obtain ⟨I1, p1, H1, p3⟩ := pt_put H (a := k + 49) (by omega) (j := (L (k + 47)).length) (by omega) (nI i)
  have e4 : ∀ a, a ≠ k + 49 → (upL (ad4 k L (nI 308)) (k + 49) ((ad4 k L (nI 308) (k + 49)).set (L (k + 47)).length (nI i))) a = ad4 k L (nI 308) a := fun a q => upL_n _ _ q
  have hk4 := hk'
  rw [← e4 (k + 2) (by omega)] at hk4
  have f4 := hcho.2.2.1
  rw [← e4 (k + 4) (by omega)] at f4
  have m4 := hcho.2.2.2.1
  rw [← e4 (k + 6) (by omega)] at m4
  have hN4 := H1.2.2.1
  have l55 : (upL (ad4 k L (nI 308)) (k + 49) ((ad4 k L (nI 308) (k + 49)).set (L (k + 47)).length (nI i)) (k + 55)).length = (L (k + 55)).length := by rw [e4 _ (by omega), hn2 _ (by omega)]
  have h57 : (L (k + 57)).length = (L (k + 55)).length := hN.2.2.2
  obtain ⟨I2, a1, a2, a3⟩ := aa_ok H1.1.1 ht hk4 hkd f4 m4 hb6 (by omega) hN4.2.2.2 (by rw [l55]; omega)
  rw [l55] at a1
  have H2 : PT k h M n D F I2 B J (alL k (upL (ad4 k L (nI 308)) (k + 49) ((ad4 k L (nI 308) (k + 49)).set (L (k + 47)).length (nI i))) f brs.length) P md (nest + 1) nest S a6 a8 a0 wd b 4 := by
    refine pt_L H1 a2 (fun a q => alL_n _ _ (by omega)) (fun q w => a3 q (by omega)) ?_ ?_ ?_ ?_
    · obtain ⟨w1, w2, w3, w4⟩ := hN4
      refine ⟨by rw [alL_n _ _ (by omega), alL_n _ _ (by omega)]; exact w1, by rw [alL_n _ _ (by omega), alL_n _ _ (by omega)]; exact w2, by rw [alL_n _ _ (by omega), alL_n _ _ (by omega)]; exact w3, ?_⟩
      rw [alL_55, alL_57, List.length_append, List.length_append, nmL_len, List.length_replicate, w4]
    · rw [alL_n _ _ (by omega)]; exact H1.2.2.2.2.2.1.1
    · rw [alL_n _ _ (by omega)]; exact H1.2.2.2.2.2.1.2.1
    · rw [alL_55, List.length_append, nmL_len, l55]
      omega
  obtain ⟨I3, b1, H3, b3⟩ := pt_put H2 (a := k + 51) (by omega) (j := (L (k + 47)).length) (by omega) (nI (L (k + 55)).length)
  obtain ⟨I4, c1, H4, c3⟩ := pt_put H3 (a := k + 53) (by omega) (j := (L (k + 47)).length) (by omega) (nI brs.length)
  refine ⟨I4, ?_, H4, fun q w => by rw [c3 q w, b3 q w, a3 q (by omega), p3 q w]⟩
  unfold caB
  rw [tlk, sb, ebr, sb, p1, sb, a1, sb]
  show ((mX4_put (k + 51) I2 (nI (L (k + 47)).length) (nI (L (k + 55)).length)).bind _) = _
  rw [b1, sb, c1, sb]
theorem st_case {Rc Rc2 : sc_3readAlternativeT} {Rr Rr2 : sc_12actT} (h1 : Rc.1 = bX3_readAlternative Rc2) (h2 : Rr.2.2.1 = bX12_cases Rr2) (hP : nest < 8 → HP k h M n D F bs b (nest + 1) Rc2.2.2.2.2 Rr2.2.2.2) (hcc : ∀ f p b I x, PF k f p b I → Rc2.2.2.2.2 I F x = some (-1, I)) (hC : CR I B J bs t r) (H : PS k h M n D F I B J L t.2.2 md nest S a6 a8 a0 wd b 0) (q : t.1 = 308) : WO1 k h M n D F I B J L bs t.2.2 md nest S a6 a8 a0 wd b (bX3_readCase Rc I F (nI nest)) (bX12_act Rr B J 108) := by
  have hk0 := H.1.1.1
  have hF := H.2.1.1
  have hnod := H.2.2.1
  have bb := H.1.2.2.2.2.2.2.2
  have bn := H.2.2.2.2.2.1
  have hbb := H.2.2.2.2.2.2.2.2
  have htl : tl 308 = 4 := by decide
  have hnst := H.1.2.2.2.2.2.2.1
  obtain ⟨u0, r0, y1, y2, y3⟩ := tkl_more hC.2.2.1 (by omega)
  have hend := tkl_end r0 u0 y2
  rw [q, htl] at y3
  obtain ⟨I1, e1, H1, f1⟩ := ps_node H (by omega) (nI 308)
  have hC1 : CR I1 B J bs t r := CR_I hC (f1 6 (by omega)) (f1 9 (by omega)) (f1 10 (by omega)) (f1 11 (by omega))
  have fr1 : cQ k I I1 := fun c q1 q2 q3 => f1 c (by omega)
  have eC : bX3_readCase Rc I F (nI nest) = (mX3_refuseOpen I1 (nI nest)).bind fun q8 => caA Rc k q8 F (nI nest) (nI (L (k + 47)).length) := by
    rw [case_eq hF]
    show ((mX0_addNode k I (nI 308)).bind _) = _
    rw [e1, sb]
  have eR : bX12_act Rr B J 108 = (mX12_opens B J).bind fun q1 => if q1.1 = 0 then some (0, q1.2.1, q1.2.2) else (bX12_cases Rr2 q1.2.1 q1.2.2).bind fun q3 => mX12_act_38 Rr q3.2.1 q3.2.2 108 q3.1 := by
    unfold bX12_act
    rw [if_pos rfl]
    unfold mX12_act_12
    simp only [h2]
    rfl
  rw [eC, eR]
  rcases Nat.lt_or_ge nest 8 with hn | hn
  · have hP := hP hn
    have eO : mX3_refuseOpen I1 (nI nest) = some I1 := by
      unfold mX3_refuseOpen
      rw [if_pos (open_lt nest hn)]
    have hCx : CR I1 (a_u2 B 186 45 (nI (nest + 1))) J bs t r := CR_B hC1 (fun j w1 w2 => a_u2_n _ _ (by omega)) (funext fun j => a_u2_n _ _ (by omega)) rfl
    obtain ⟨u, r', I2, B2, J2, k1, k2, k3, k4, k5, k6, k7⟩ := jadv hCx (by omega)
    rw [q, htl] at k5
    have H2 := pt_cur (pt_open H1 hn) k6 k7 (P' := u.2.2) (by omega)
    have fr2 : cQ k I I2 := fr1.trans (cf_cQ k6)
    have rp2 : rP h md nest B J B2 J2 := (rP_sc (by omega) (nI (nest + 1))).trans (rf_rP k7) (Nat.le_refl md) (Nat.le_refl nest)
    have eOr : mX12_opens B J = some (1, B2, J2) := by
      unfold mX12_opens
      rw [if_neg (fun z => by rw [hnst.1] at z; have := (nI_eq (a := nest) (b := 8) (by omega) (by omega)).mp z; omega), hnst.1, nI_1, k3, sb]
    have eA : caA Rc k I1 F (nI nest) (nI (L (k + 47)).length) = (mX3_readChannel I2 F (nI 308)).bind fun q10 => caB Rc k q10.2 F (nI nest) (nI (L (k + 47)).length) q10.1 := by
      unfold caA
      rw [k2, sb]
      rfl
    rw [eO, sb, eOr, sb, if_neg i10, eA]
    show WO1 k h M n D F I B J L bs t.2.2 md nest S a6 a8 a0 wd b _ ((bX12_cases Rr2 B2 J2).bind fun q3 => mX12_act_38 Rr q3.2.1 q3.2.2 108 q3.1)
    have out0 : ∀ {x : Int32} {I' B9 : iT} {J9 : jT} {oc : Option (Int32 × iT)}, oc = some (x, I') → bX12_cases Rr2 B2 J2 = some (0, B9, J9) → PL k h (b + 1) I B J I' B9 J9 → WO1 k h M n D F I B J L bs t.2.2 md nest S a6 a8 a0 wd b oc ((bX12_cases Rr2 B2 J2).bind fun q3 => mX12_act_38 Rr q3.2.1 q3.2.2 108 q3.1) := by
      intro x I' B9 J9 oc c1 c2 c3
      refine ⟨x, I', 0, a_u2 B9 186 45 (B9 186 45 - 1), J9, c1, ?_, Or.inl ⟨rfl, pl_45 c3 _⟩⟩
      rw [c2, sb]
      unfold mX12_act_38
      rw [if_pos (Or.inl rfl)]
    rcases jchan hF k4 H2.1 (pt_scp H2) (by omega) cw308 with ⟨x, I3, B3, J3, s1, s2, s3⟩ | ⟨i, s, kd, wc, u3, r3, I3, B3, J3, s1, s2, s3, s4, s5, s6, s7, s8, s9, s10, s11, s12, s13, s14, s15⟩
    · have hpl := (PL.pre (cQ_FQ fr2) (rP_RX rp2) s3).mono (Nat.le_succ b) (by omega)
      obtain ⟨x2, I', a1, a2⟩ := pfo_PL hpl (c' := b + 1) (fun f p hf => pf_caB (Rc := Rc) (F := F) hf (tb_keep H2.1.1 H2.1.2.2.1 hf.1 (fun a q1 q2 => rc_fr s1 a (by omega))) (nI nest) (nI (L (k + 47)).length) x)
      refine out0 (x := x2) (I' := I') (B9 := B3) (J9 := J3) (by rw [s1, sb]; exact a1) ?_ a2
      unfold bX12_cases
      rw [s2, sb, if_pos rfl]
    · have hkd := kw_kd s5 s8
      have hs := s2
      have H3 := pt_cur (pt_49 H2 48 (by omega) (nI (sg n i))) s14 s15 (P' := u3.2.2) (by omega)
      have fr3 : cQ k I I3 := fr2.trans (cf_cQ s14)
      have rp3 : rP h md nest B J B3 J3 := (rp2.trans (rP_sc (by omega) _) (Nat.le_refl md) (Nat.le_refl nest)).trans (rf_rP s15) (Nat.le_refl md) (Nat.le_refl nest)
      have e48 : B3 186 48 = nI (sg n i) := by rw [s15.1 _ _ (by omega), a_u2_s]
      have hsr := H3.1.2.2.2.2.2.1
      obtain ⟨t1, t2, t3⟩ := (hsr.2.2.1 i s hs).2.2.2.2 s3
      have hil : i < S.length := (List.getElem?_eq_some_iff.mp hs).1
      have hsg := sg_lt hsr.2.1.2.2.2.1 hil
      have hS85 := hsr.2.1.2.2.2.2.2.1
      have in1 := in128 (show sg n i < 128 by omega)
      have cl1 := cl128 (show sg n i < 128 by omega)
      have hP3 := cr_end s12
      have hkL : gI (L (k + 2)) s.2.2.2.1 = nI kd := by have := s6; rw [ad4_n _ (by omega)] at this; exact this
      obtain ⟨f, brs, hcho⟩ := tr_cho t3 t2 (kd := kd) (by rw [ad4_n _ (by omega)]; exact hkL) hkd
      obtain ⟨I4, p1, H4, p3⟩ := ca_head (Rc := Rc) hnod H3 hs s3 hkL hkd hcho (by omega) hP3 hn
      have hC4 : CR I4 B3 J3 bs u3 r3 := CR_I s12 (p3 6 (by omega)) (p3 9 (by omega)) (p3 10 (by omega)) (p3 11 (by omega))
      have fr4 : cQ k I I4 := fr3.trans (fun c w1 w2 w3 => p3 c (by omega))
      have eCs : bX12_cases Rr2 B2 J2 = (mX12_need B3 J3 123).bind fun q17 => if q17.1 = 0 then some (0, q17.2.1, q17.2.2) else (mX12_node q17.2.1 q17.2.2 47 (nI (sg n i)) (-1) 0).bind fun q18 => (mX12_save q18.2.1 q18.2.2 (q18.2.1 186 45)).bind fun q19 => mX12_cases_67 Rr2 LF q19.1 q19.2 (nI (sg n i)) (nI s.2.2.1) q18.1 (q18.2.1 186 45) (q18.2.1 186 43) (-1) := by
        unfold bX12_cases
        rw [s11, sb, if_neg i10]
        simp only [e48]
        rw [if_pos in1, congrArg (B3 209) cl1, t1]
      rw [s10, sb, p1]
      rcases jneed hC4 H4.1.1 h 123 (by omega) with ⟨w1, u5, r5, I5, B5, J5, l1, l2, l3, l4, l5, l6, l7⟩ | ⟨w1, I5, B5, l2, l3, l4⟩
      · have htl5 : tl u3.1 = 1 := by rw [w1]; decide
        rw [htl5] at l5
        have l3' : mX12_need B3 J3 123 = some (1, B5, J5) := l3
        have H5 := pt_z (pt_cur H4 l6 l7 (P' := u5.2.2) (by omega)) (z' := 0) (by rw [caL_47, List.length_append]; show 4 * ((L (k + 47)).length + 1) ≤ _; omega)
        have hQs : 1400 * h ≤ s.2.2.1 ∧ s.2.2.1 < M := (tr_u t3).2.1
        have hcho5 : CHO k (caL k L i f brs.length) B5 J5 (fun v => 1400 * h ≤ v ∧ v < M) s.2.2.1 s.2.2.2.1 f brs := cho_to H3.1.2.2.1 (fun a q1 q2 => by rw [caL_n (by omega), ad4_n _ (by omega)]) hQs (fun v hv => ⟨l7.1 _ _ (by omega), l7.1 _ _ (by omega), l7.1 _ _ (by omega), l7.1 _ _ (by omega), l7.2 _ _ (by omega)⟩) hcho
        have := case2 (Rc := Rc) (Rc2 := Rc2) (Rr := Rr) (Rr2 := Rr2) h1 hP hcc H hs s3 hkL s8 hkd hcho5 l4 H5 (by omega) (cQ_cW hk0 (fr4.trans (cf_cQ l6))) (rp3.trans (rf_rP l7) (Nat.le_refl md) (Nat.le_refl nest)) (nI i) (nI s.2.2.2.1)
        rw [eCs, l3', sb, if_neg i10]
        unfold caC
        show WO1 k h M n D F I B J L bs t.2.2 md nest S a6 a8 a0 wd b ((mX2_want I4 (nI 123)).bind _) _
        rw [l2, sb]
        exact this
      · have hpl := (PL.pre (cQ_FQ fr4) (rP_RX rp3) (fail_PL l4 (pt_scp H4) (by omega))).mono (Nat.le_succ b) (by omega)
        obtain ⟨x2, I', a1, a2⟩ := pfo_PL hpl (c' := b + 1) (fun f p hf => pf_119L (Rc := Rc) (F := F) hf (nI nest) (nI (L (k + 47)).length) (nI i) (nI s.2.2.2.1) (nI brs.length) 80 0)
        refine out0 (x := x2) (I' := I') (B9 := B5) (J9 := J3) ?_ ?_ a2
        · unfold caC
          show ((mX2_want I4 (nI 123)).bind _) = _
          rw [l2, sb]
          exact a1
        · rw [eCs]
          show ((mX12_need B3 J3 (nI 123)).bind _) = _
          rw [l3, sb, if_pos rfl]
  · have h8 : nest = 8 := by omega
    obtain ⟨I9, B9, a1, a2, a3, a4⟩ := pbad hC1 H1 (f := 5) (by decide) (nI t.2.2)
    have hpl := (PL.pre (cQ_FQ fr1) (rP_RX (rP_rfl (h := h) (md := md) (nest := nest) (B := B) (J := J))) a3).mono (Nat.le_succ b) (by omega)
    obtain ⟨x, I', b1, b2⟩ := pfo_PL hpl (c' := b + 1) (fun f p hf => pf_caA (Rc := Rc) hF hf (tb_keep H1.1.1 H1.1.2.2.1 hf.1 (fun a q1 q2 => a4 a (by omega))) (nI nest) (nI (L (k + 47)).length))
    refine ⟨x, I', 0, B9, J, ?_, ?_, Or.inl ⟨rfl, b2⟩⟩
    · unfold mX3_refuseOpen
      rw [h8, if_neg open_8, cr_8 hC1, a1, sb, sb, ← h8]
      exact b1
    · unfold mX12_opens
      rw [if_pos (by rw [hnst.1, h8]; rfl), cr_4 hC, a2, sb, if_pos (Or.inl rfl), sb, if_pos rfl]
end
