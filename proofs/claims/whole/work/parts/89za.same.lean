/-! SAME (pure) -/
/-- the reference refuses at a token -/
def rBad (B : iT) (J : jT) (f p : Int32) : Option (Int32 × iT × jT) := (mX12_bad B f p).bind fun q1 => if q1.1 = 0 ∨ q1.1 = 1 then some (q1.1, q1.2, J) else none
theorem rBad_ok {B B' : iT} {J : jT} {f p : Int32} (h : mX12_bad B f p = some (0, B')) : rBad B J f p = some (0, B', J) := by
  unfold rBad
  rw [h, sb, if_pos (Or.inl rfl)]
/-- the reference looks a CHANNEL up: Y if it is given, else N -/
def refJ (B : iT) (J : jT) (Y N : Int32 → Option (Int32 × iT × jT)) : Option (Int32 × iT × jT) :=
  if (B 186 3) = 2 then (mX12_slot B J (J 186 6)).bind fun q3 => if q3 = ((-1)) then rBad B J 2 (B 186 4) else if inb q3 128 then if (B 208 q3.toNatClampNeg) = 0 then rBad B J 2 (B 186 4) else if inb q3 128 then if (B 208 q3.toNatClampNeg) = 1 then Y q3 else N q3 else none else none else rBad B J 1 (B 186 4)
section
variable {k h M n : Nat} {F : fT} {I B : iT} {J : jT} {L : lT} {bs : List Nat} {t : Tok} {r : List Tok} {P md nest lv b : Nat} {S : List Sl} {a6 a8 a0 : List Int32}
theorem jnm (hC : CR I B J bs t r) (H : XS k h M n F I B J L P md nest lv S a6 a8 a0) :
    (∃ I9 B', mX2_takeName I = some (0, I9) ∧ (∀ Y N, refJ B J Y N = some (0, B', J)) ∧ FAIL k h I B J I9 B' J) ∨
    (∃ I1 v I9 B', mX2_takeName I = some (nI (cN t.2.1), I1) ∧ mX5_find I1 (nI (cN t.2.1)) = some v ∧ mX5_talkAt I1 v = some (-1) ∧ mX2_refuse I1 2 (nI t.2.2) = some I9 ∧ (∀ Y N, refJ B J Y N = some (0, B', J)) ∧ FAIL k h I B J I9 B' J) ∨
    (∃ u r' I1 B1 J1 j s, r = u :: r' ∧ t.1 = 256 ∧ mX2_takeName I = some (nI (cN t.2.1), I1) ∧ mX2_advance I = some I1 ∧ mX12_look0 B J = some (B1, J1) ∧ CR I1 B1 J1 bs u r' ∧ t.2.2 + 1 ≤ u.2.2 ∧ cf I I1 ∧ rf B J B1 J1 ∧ S[j]? = some s ∧ s.1 = 2 ∧ mX5_find I1 (nI (cN t.2.1)) = some (nI j) ∧ mX5_talkAt I1 (nI j) = some (nI s.2.2.2.1) ∧ (∀ Y N, refJ B J Y N = if j = 0 then Y (nI (sg n j)) else N (nI (sg n j))) ∧ j < 85 ∧ sg n j < 85 ∧ B 209 (sg n j) = nI s.2.2.1 ∧ s.2.2.2.2 ≤ 200 ∧ TR k L B J (fun v => 1400 * h ≤ v ∧ v < M) s.2.2.2.2 s.2.2.1 s.2.2.2.1 s.2.2.2.2) := by
  rcases jname hC H with ⟨q2, q3, I9, B9, a1, a2, a3⟩ | ⟨q2, q3, u8, r8, I8, B8, J8, k1, k2, k3, k4, k5, k6, k7, k8, HN⟩
  · left
    refine ⟨I9, B9, a1, fun Y N => ?_, a3⟩
    unfold refJ
    rw [if_neg q3, cr_4 hC, rBad_ok a2]
  · right
    have hR8 := cf_RS k7 H.1
    rcases HN with ⟨v, v1, v2, v3⟩ | ⟨j, sj, j1, j2, j3, j4, j5, j6, j7, j8, j9, j10, j11⟩
    · left
      obtain ⟨I9, B9, a1, a2, a3⟩ := jbad2 hC hR8 (cr_9 k4) (cf_FX k7) h (f := 2) (by decide) (nI t.2.2)
      refine ⟨I8, v, I9, B9, k2, v1, v2, a1, fun Y N => ?_, a3⟩
      unfold refJ
      rw [if_pos q3, cr_4 hC, rBad_ok a2]
      rcases v3 with v3 | ⟨sl, s1, s2, s3⟩
      · rw [v3, sb, if_pos rfl]
      · rw [s2, sb, if_neg (nIm (by omega)), if_pos (in128 s1), congrArg (B 208) (cl128 s1), if_pos s3]
    · right
      have j128 := in128 (show sg n j < 128 by omega)
      have jc := cl128 (show sg n j < 128 by omega)
      refine ⟨u8, r8, I8, B8, J8, j, sj, k1, q2, k2, k3, k5, k4, k6, k7, k8, j1, j2, j3, j4, fun Y N => ?_, j6, j7, j9, j10, j11⟩
      unfold refJ
      rw [if_pos q3, j5, sb, if_neg (nIm (by omega)), if_pos j128]
      by_cases ej : j = 0
      · have h1 : B 208 (nI (sg n j)).toNatClampNeg = 1 := by rw [jc, j8, if_pos ej]
        rw [if_pos ej, if_neg (by rw [h1]; decide), if_pos j128, if_pos h1]
      · have h1 : B 208 (nI (sg n j)).toNatClampNeg = 2 := by rw [jc, j8, if_neg ej]
        rw [if_neg ej, if_neg (by rw [h1]; decide), if_pos j128, if_neg (by rw [h1]; decide)]
end
section
variable {k : Nat} {f p : Int32} {b : Nat} {I : iT} {F : fT}
theorem pf_j44 (hp : PF k f p b I) (x1 x2 x3 : Int32) : PFo k f p b I (mX3_readJoined_44 I x1 x2 x3) := by
  unfold mX3_readJoined_44 mX3_readJoined_53
  rw [fm_refuse hp.1, sb]
  exact pfo_if (pfo_if (pfo_ret hp _) (pfo_ret hp _)) (pfo_if (pfo_ret hp _) (pfo_ret hp _))
theorem pf_joinR (hp : PF k f p b I) (x x1 x2 : Int32) : PFo k f p b I ((mX5_find I x).bind fun q3 => (mX5_talkAt I q3).bind fun q4 => if q4 = ((-1)) then (mX2_refuse I 2 x2).bind fun q5 => mX3_readJoined_44 q5 x1 x2 q3 else mX3_readJoined_44 I x1 x2 q3) := by
  refine pfo_r (pf_find hp _) (fun v => pfo_r (pf_talk hp _) (fun v2 => ?_))
  rw [fm_refuse hp.1, sb]
  exact pfo_if (pf_j44 hp _ _ _) (pf_j44 hp _ _ _)
theorem pf_s68 (hF : F 134 4 = k) (hp : PF k f p b I) (x1 x2 x3 x4 : Int32) : PFu k f p b I (mX3_readSame_68 I F x1 x2 x3 x4) := by
  have h96 : ∀ I1, PF k f p b I1 → PFu k f p b I1 (mX3_readSame_96 I1 F x1 x2 x3 x4) := by
    intro I1 h1
    unfold mX3_readSame_96
    rw [hF]
    have hk := pf_k h1
    exact pfu_u (pf_putB h1 (by unfold rowB; omega) _ _) (fun I2 h2 => pfu_u (pf_putB h2 (by unfold rowB; omega) _ _) (fun I3 h3 => pfu_ret h3))
  unfold mX3_readSame_68
  refine pfu_u (pf_drop hp _) (fun I1 h1 => pfu_r (pf_has h1) (fun v => ?_))
  rw [fm_refuse h1.1, sb]
  exact pfu_if (h96 I1 h1) (h96 I1 h1)
/-- the class behind both NAMES -/
def smR (I : iT) (F : fT) (x1 x2 y z : Int32) : Option iT := (mX5_talkAt I y).bind fun q10 => (mX5_talkAt I z).bind fun q11 => if q10 = q11 then mX3_readSame_68 I F x1 x2 y z else (mX2_refuse I 3 x2).bind fun q12 => mX3_readSame_68 q12 F x1 x2 y z
theorem pf_smR (hF : F 134 4 = k) (hp : PF k f p b I) (x1 x2 y z : Int32) : PFu k f p b I (smR I F x1 x2 y z) := by
  unfold smR
  refine pfu_r (pf_talk hp _) (fun v => pfu_r (pf_talk hp _) (fun v2 => ?_))
  rw [fm_refuse hp.1, sb]
  exact pfu_if (pf_s68 hF hp _ _ _ _) (pf_s68 hF hp _ _ _ _)
theorem pf_sm1 (hF : F 134 4 = k) (hp : PF k f p b I) (x1 x2 y : Int32) : PFu k f p b I ((mX3_readJoined I 0).bind fun q9 => smR q9.2 F x1 x2 y q9.1) := by
  refine pfu_o (b1 := b) ?_ (fun x I1 h1 => pf_smR hF h1 _ _ _ _)
  unfold mX3_readJoined
  rw [fm_take hp.1, sb]
  exact pf_joinR hp _ _ _
end
section
variable {k h M n : Nat} {D : List Df} {F : fT} {I B : iT} {J : jT} {L : lT} {bs : List Nat} {t : Tok} {r : List Tok} {P md nest wd b z : Nat} {S : List Sl} {a6 a8 a0 : List Int32}
theorem st_same (R : sc_12actT) (hC : CR I B J bs t r) (H : PS k h M n D F I B J L t.2.2 md nest S a6 a8 a0 wd b 0) (q : t.1 = 310) : EO k h M n D F I B J L bs t.2.2 md nest S a6 a8 a0 wd b (mX3_readSame I F) (bX12_act R B J 110) := by
  have hk0 := H.1.1.1
  have hF := H.2.1.1
  have hnod := H.2.2.1
  have bb := H.1.2.2.2.2.2.2.2
  have bn := H.2.2.2.2.2.1
  have hbb := H.2.2.2.2.2.2.2.2
  have htl : tl 310 = 4 := by decide
  have hh := H.1.2.2.2.2.1.1
  obtain ⟨u0, r0, y1, y2, y3⟩ := tkl_more hC.2.2.1 (by omega)
  have hend := tkl_end r0 u0 y2
  rw [q, htl] at y3
  have hlen : (L (k + 47)).length < 2 ^ 31 := by omega
  obtain ⟨I1, e1, H1, f1⟩ := ps_node H (by omega) (nI 310)
  have hC1 : CR I1 B J bs t r := CR_I hC (f1 6 (by omega)) (f1 9 (by omega)) (f1 10 (by omega)) (f1 11 (by omega))
  obtain ⟨u, r', I2, B2, J2, k1, k2, k3, k4, k5, k6, k7⟩ := jadv hC1 (by omega)
  rw [q, htl] at k5
  have H2 := ps_cur H1 k6 k7 (P' := u.2.2) (by omega)
  have fr2 : cQ k I I2 := (show cQ k I I1 from fun c q1 q2 q3 => f1 c (by omega)).trans (cf_cQ k6)
  have eR : bX12_act R B J 110 = (refJ B2 J2 (fun q3 => (mX12_look0 B2 J2).bind fun q4 => refJ q4.1 q4.2 (fun _ => rBad q4.1 q4.2 4 (q4.1 186 4)) (fun q5 => (mX12_look0 q4.1 q4.2).bind fun q6 => if inb q3 128 then if inb q5 128 then (mX12_alike SF q6.1 q6.2 (q6.1 209 q3.toNatClampNeg) (q6.1 209 q5.toNatClampNeg)).bind fun q7 => if q7 = 0 then rBad q6.1 q6.2 3 (nI t.2.2) else if inb q5 128 then (mX12_has q6.1 (a_u2 q6.2 206 q5.toNatClampNeg 0)).bind fun q8 => if q8 = 0 then (mX12_node q6.1 (a_u2 q6.2 206 q5.toNatClampNeg 0) 50 q3 q5 0).bind fun q9 => some (1, a_u2 q9.2.1 186 49 q9.1, q9.2.2) else rBad q6.1 (a_u2 q6.2 206 q5.toNatClampNeg 0) 4 (nI t.2.2) else none else none else none)) (fun _ => rBad B2 J2 4 (B2 186 4))).bind fun q28 => if q28.1 = 0 ∨ q28.1 = 1 then some (q28.1, q28.2.1, q28.2.2) else none := by
    unfold bX12_act
    rw [if_neg (by decide), if_neg (by decide), k3, sb, cr_4 hC]
    rfl
  have eC : mX3_readSame I F = (mX3_readJoined I2 1).bind fun q8 => (mX3_readJoined q8.2 0).bind fun q9 => smR q9.2 F (nI (L (k + 47)).length) (I1 6 8) q8.1 q9.1 := by
    unfold mX3_readSame
    rw [hF]
    show ((mX0_addNode k I (nI 310)).bind _) = _
    rw [e1, sb, k2, sb]
    rfl
  rw [cr_8 hC1] at eC
  have bad1 : ∀ {o : Option (Int32 × iT × jT)} {B9 : iT} {J9 : jT}, o = some (0, B9, J9) → (o.bind fun q28 => if q28.1 = 0 ∨ q28.1 = 1 then some (q28.1, q28.2.1, q28.2.2) else none) = some (0, B9, J9) := by
    intro o B9 J9 e
    rw [e, sb, if_pos (Or.inl rfl)]
  rw [eR, eC]
  -- the class behind a fault in the first NAME
  have fin1 : ∀ {I9 B9 : iT} {J9 : jT} {o : Option (Int32 × iT)}, PL k h b I B J I9 B9 J9 → (∀ f p, PF k f p b I9 → PFo k f p b I9 o) → ∃ I', (o.bind fun q8 => (mX3_readJoined q8.2 0).bind fun q9 => smR q9.2 F (nI (L (k + 47)).length) (nI t.2.2) q8.1 q9.1) = some I' ∧ PL k h (b + 1) I B J I' B9 J9 := by
    intro I9 B9 J9 o hpl ho
    exact pfu_PL hpl (c' := b + 1) (fun f p hf => pfu_mono (pfu_o (ho f p hf) (fun x I1 h1 => pf_sm1 hF h1 _ _ _)) (Nat.le_succ b) (by omega))
  have pre2 : ∀ {I9 B9 : iT} {J9 : jT}, FAIL k h I2 B2 J2 I9 B9 J9 → PL k h b I B J I9 B9 J9 := fun a3 => PL.pre (cQ_FQ fr2) (rf_RX k7) (fail_PL a3 (ps_scp H2) (by omega))
  rcases jnm k4 H2.1 with ⟨I9, B9, a1, a2, a3⟩ | ⟨I3, v, I9, B9, v1, v2, v3, a1, a2, a3⟩ | ⟨u3, r3, I3, B3, J3, j, s, z1, z2, z3, z4, z5, z6, z7, z8, z9, z10, z11, z12, z13, z14, z15, z16, z17, z18, z19⟩
  · obtain ⟨I', b1, b2⟩ := fin1 (pre2 a3) (fun f p hf => pf_joinR hf 0 1 (nI u.2.2))
    refine ⟨I', 0, B9, J2, ?_, bad1 (a2 _ _), Or.inl ⟨rfl, b2⟩⟩
    unfold mX3_readJoined
    rw [a1, sb, cr_8 k4]
    exact b1
  · obtain ⟨I', b1, b2⟩ := fin1 (pre2 a3) (fun f p hf => pf_j44 hf 1 (nI u.2.2) v)
    refine ⟨I', 0, B9, J2, ?_, bad1 (a2 _ _), Or.inl ⟨rfl, b2⟩⟩
    rw [← b1]
    congr 1
    unfold mX3_readJoined
    rw [v1, sb, cr_8 k4, v2, sb, v3, sb, if_pos rfl, a1, sb]
  · have eJ : mX3_readJoined I2 1 = mX3_readJoined_44 I3 1 (nI u.2.2) (nI j) := by
      unfold mX3_readJoined
      rw [z3, sb, cr_8 k4, z12, sb, z13, sb, if_neg (nIm (by have := tr_u z19; have := rs_K H2.1.1; omega))]
    rw [eJ, z14]
    by_cases ej : j = 0
    · subst ej
      rw [if_pos rfl, z5, sb]
      have hsg : sg n 0 = n := by unfold sg; rw [if_pos rfl]
      have eJ2 : mX3_readJoined_44 I3 1 (nI u.2.2) (nI 0) = some (nI 0, I3) := by
        unfold mX3_readJoined_44 mX3_readJoined_53
        rw [if_pos (show nI 0 = 0 from rfl), if_pos rfl]
      rw [eJ2, sb]
      have H3 := ps_cur H2 z8 z9 (P' := u3.2.2) (by omega)
      have fr3 : cQ k I I3 := fr2.trans (cf_cQ z8)
      have rp3 : rP h md nest B J B3 J3 := (rf_rP k7).trans (rf_rP z9) (Nat.le_refl _) (Nat.le_refl nest)
      have fin2 : ∀ {I9 B9 : iT} {J9 : jT} {o : Option (Int32 × iT)}, FAIL k h I3 B3 J3 I9 B9 J9 → (∀ f p, PF k f p b I9 → PFo k f p b I9 o) → ∃ I', (o.bind fun q9 => smR q9.2 F (nI (L (k + 47)).length) (nI t.2.2) (nI 0) q9.1) = some I' ∧ PL k h (b + 1) I B J I' B9 J9 := by
        intro I9 B9 J9 o a3 ho
        exact pfu_PL (PL.pre (cQ_FQ fr3) (rP_RX rp3) (fail_PL a3 (ps_scp H3) (by omega))) (c' := b + 1) (fun f p hf => pfu_mono (pfu_o (ho f p hf) (fun x I1 h1 => pf_smR hF h1 _ _ _ _)) (Nat.le_succ b) (by omega))
      show EO k h M n D F I B J L bs t.2.2 md nest S a6 a8 a0 wd b ((mX3_readJoined I3 0).bind fun q9 => smR q9.2 F (nI (L (k + 47)).length) (nI t.2.2) (nI 0) q9.1) ((refJ B3 J3 (fun _ => rBad B3 J3 4 (B3 186 4)) (fun q5 => (mX12_look0 B3 J3).bind fun q6 => if inb (nI (sg n 0)) 128 then if inb q5 128 then (mX12_alike SF q6.1 q6.2 (q6.1 209 (nI (sg n 0)).toNatClampNeg) (q6.1 209 q5.toNatClampNeg)).bind fun q7 => if q7 = 0 then rBad q6.1 q6.2 3 (nI t.2.2) else if inb q5 128 then (mX12_has q6.1 (a_u2 q6.2 206 q5.toNatClampNeg 0)).bind fun q8 => if q8 = 0 then (mX12_node q6.1 (a_u2 q6.2 206 q5.toNatClampNeg 0) 50 (nI (sg n 0)) q5 0).bind fun q9 => some (1, a_u2 q9.2.1 186 49 q9.1, q9.2.2) else rBad q6.1 (a_u2 q6.2 206 q5.toNatClampNeg 0) 4 (nI t.2.2) else none else none else none)).bind fun q28 => if q28.1 = 0 ∨ q28.1 = 1 then some (q28.1, q28.2.1, q28.2.2) else none)
      rcases jnm z6 H3.1 with ⟨I9, B9, a1, a2, a3⟩ | ⟨I4, v, I9, B9, v1, v2, v3, a1, a2, a3⟩ | ⟨u4, r4, I4, B4, J4, j, sj, w1, w2, w3, w4, w5, w6, w7, w8, w9, w10, w11, w12, w13, w14, w15, w16, w17, w18, w19⟩
      · obtain ⟨I', b1, b2⟩ := fin2 a3 (fun f p hf => pf_joinR hf 0 0 (nI u3.2.2))
        refine ⟨I', 0, B9, J3, ?_, bad1 (a2 _ _), Or.inl ⟨rfl, b2⟩⟩
        unfold mX3_readJoined
        rw [a1, sb, cr_8 z6]
        exact b1
      · obtain ⟨I', b1, b2⟩ := fin2 a3 (fun f p hf => pf_j44 hf 0 (nI u3.2.2) v)
        refine ⟨I', 0, B9, J3, ?_, bad1 (a2 _ _), Or.inl ⟨rfl, b2⟩⟩
        rw [← b1]
        congr 1
        unfold mX3_readJoined
        rw [v1, sb, cr_8 z6, v2, sb, v3, sb, if_pos rfl, a1, sb]
      · have eJ3 : mX3_readJoined I3 0 = mX3_readJoined_44 I4 0 (nI u3.2.2) (nI j) := by
          unfold mX3_readJoined
          rw [w3, sb, cr_8 z6, w12, sb, w13, sb, if_neg (nIm (by have := tr_u w19; have := rs_K H3.1.1; omega))]
        rw [eJ3, w14]
        by_cases ej : j = 0
        · subst ej
          rw [if_pos rfl]
          obtain ⟨I9, B9, a1, a2, a3⟩ := jbad2 z6 (cf_RS w8 H3.1.1) (cr_9 w6) (cf_FX w8) h (f := 4) (by decide) (nI u3.2.2)
          obtain ⟨I', b1, b2⟩ := fin2 a3 (fun f p hf => pfo_ret hf (nI 0))
          refine ⟨I', 0, B9, J3, ?_, bad1 (by rw [cr_4 z6]; exact rBad_ok a2), Or.inl ⟨rfl, b2⟩⟩
          unfold mX3_readJoined_44 mX3_readJoined_53
          rw [if_pos (show nI 0 = 0 from rfl), if_neg (by decide), a1, sb]
          exact b1
        · have eJ4 : mX3_readJoined_44 I4 0 (nI u3.2.2) (nI j) = some (nI j, I4) := by
            unfold mX3_readJoined_44 mX3_readJoined_53
            rw [if_neg (nI_ne0 (by omega) (by omega)), if_pos rfl]
          rw [if_neg ej, eJ4, sb, w5, sb]
          have H4 := ps_cur H3 w8 w9 (P' := u4.2.2) (by omega)
          have fr4 : cQ k I I4 := fr3.trans (cf_cQ w8)
          have rp4 : rP h md nest B J B4 J4 := rp3.trans (rf_rP w9) (Nat.le_refl _) (Nat.le_refl nest)
          have hsr := H4.1.2.2.2.2.2.1
          have hT := H4.1.2.2.1
          have hK := rs_K H4.1.1
          have hN5 := len10 H4.1.1
          obtain ⟨x1, x2, x3⟩ := (hsr.2.2.1 0 s z10).2.2.2.2 z11
          obtain ⟨y1', y2', y3'⟩ := (hsr.2.2.1 j sj w10).2.2.2.2 w11
          have ux := tr_u x3
          have uy := tr_u y3'
          have t0 := sr_talk hsr z10
          have tj := sr_talk hsr w10
          rw [if_pos z11] at t0
          rw [if_pos w11] at tj
          have hal := al_ok hT hK hN5 _ _ _ _ _ _ _ _ SF x3 y3' (by unfold SF; omega)
          have n128 := in128 (show sg n 0 < 128 by omega)
          have j128 := in128 (show sg n j < 128 by omega)
          have nc := cl128 (show sg n 0 < 128 by omega)
          have jc := cl128 (show sg n j < 128 by omega)
          show EO k h M n D F I B J L bs t.2.2 md nest S a6 a8 a0 wd b (smR I4 F (nI (L (k + 47)).length) (nI t.2.2) (nI 0) (nI j)) ((if inb (nI (sg n 0)) 128 then if inb (nI (sg n j)) 128 then (mX12_alike SF B4 J4 (B4 209 (nI (sg n 0)).toNatClampNeg) (B4 209 (nI (sg n j)).toNatClampNeg)).bind fun q7 => if q7 = 0 then rBad B4 J4 3 (nI t.2.2) else if inb (nI (sg n j)) 128 then (mX12_has B4 (a_u2 J4 206 (nI (sg n j)).toNatClampNeg 0)).bind fun q8 => if q8 = 0 then (mX12_node B4 (a_u2 J4 206 (nI (sg n j)).toNatClampNeg 0) 50 (nI (sg n 0)) (nI (sg n j)) 0).bind fun q9 => some (1, a_u2 q9.2.1 186 49 q9.1, q9.2.2) else rBad B4 (a_u2 J4 206 (nI (sg n j)).toNatClampNeg 0) 4 (nI t.2.2) else none else none else none).bind fun q28 => if q28.1 = 0 ∨ q28.1 = 1 then some (q28.1, q28.2.1, q28.2.2) else none)
          rw [if_pos n128, if_pos j128, if_pos j128, jc, nc, x1, y1', hal, sb]
          unfold smR
          rw [t0, sb, tj, sb]
          by_cases et : s.2.2.2.1 = sj.2.2.2.1
          · rw [if_pos et, if_neg i10, if_pos (by rw [et])]
            obtain ⟨I5, g1, H5, g3⟩ := ps_drop0 H4 w10 (by omega)
            have hC5 : CR I5 B4 (a_u2 J4 206 (sg n j) 0) bs u4 r4 := CR_B (CR_I w6 (g3 6 (by omega)) (g3 9 (by omega)) (g3 10 (by omega)) (g3 11 (by omega))) (fun _ _ _ => rfl) rfl (a_u2_n _ _ (by omega))
            obtain ⟨v, hv1, hv2, hv3⟩ := sr_has H5.1.2.2.2.2.2.1 hK
            unfold mX3_readSame_68
            rw [g1, sb, hv1, sb, hv2, sb]
            rcases hv3 with ⟨rfl, hv3⟩ | ⟨rfl, hv3⟩
            · rw [if_neg i10, if_neg i10]
              obtain ⟨I9, B9, a1, a2, a3, a4⟩ := pbad hC5 H5 (f := 4) (by decide) (nI t.2.2)
              obtain ⟨I', b1, b2⟩ := pfu_PL (PL.pre (cQ_FQ (fr4.trans (fun c w1 w2 w3 => g3 c (by omega)))) (rP_RX (rp4.trans (rP_206 (sg n j) 0) (Nat.le_refl md) (Nat.le_refl nest))) a3) (c' := b + 1) (o := mX3_readSame_96 I9 F (nI (L (k + 47)).length) (nI t.2.2) (nI 0) (nI j)) (fun f p hf => by
                unfold mX3_readSame_96
                rw [hF]
                exact pfu_mono (pfu_u (pf_putB hf (by unfold rowB; omega) _ _) (fun I2 h2 => pfu_u (pf_putB h2 (by unfold rowB; omega) _ _) (fun I3 h3 => pfu_ret h3))) (Nat.le_succ b) (by omega))
              exact ⟨I', 0, B9, _, by rw [a1, sb]; exact b1, bad1 (rBad_ok a2), Or.inl ⟨rfl, b2⟩⟩
            · rw [if_pos rfl, if_pos rfl]
              obtain ⟨I6, p1, p2, p3⟩ := ps_put H5 (a := k + 49) (by omega) (j := (L (k + 47)).length) hlen (nI 0)
              obtain ⟨I7, p4, p5, p6⟩ := ps_put p2 (a := k + 51) (by omega) (j := (L (k + 47)).length) hlen (nI j)
              have hP4 := cr_end w6
              obtain ⟨B5, J5, m1, m2, m3, m4, m5, m6, m7, m8, m9, m10⟩ := ps_rnode p5 (by omega) (by omega) 50 (nI (sg n 0)) (nI (sg n j)) 0
              have H6 := ps_49 m2 49 (by omega) (nI (1400 * h + md))
              have fI : ∀ c, c ≠ 6 → ¬ (136 ≤ c ∧ c ≤ 139) → ¬ (k + 47 ≤ c ∧ c ≤ k + 58) → I7 c = I4 c := fun c w1 w2 w3 => by rw [p6 c w3, p3 c w3, g3 c w2]
              have hC9 : CR I7 (a_u2 B5 186 49 (nI (1400 * h + md))) J5 bs u4 r4 := CR_B (CR_I hC5 (by rw [p6 6 (by omega), p3 6 (by omega)]) (by rw [p6 9 (by omega), p3 9 (by omega)]) (by rw [p6 10 (by omega), p3 10 (by omega)]) (by rw [p6 11 (by omega), p3 11 (by omega)])) (fun j _ _ => by rw [a_u2_n _ _ (by omega), m9 _ _ (by omega) (by omega)]) (funext fun j => by rw [a_u2_n _ _ (by omega), m9 _ _ (by omega) (by omega)]) (m10 _ _ (by omega))
              have hng := ng_51 hnod (ng_49 hnod (ng_ad4 (k := k) (L := L) (nI 310)) (nI 0)) (nI j)
              have hg := ng_g hnod hng
              have hLs : ∀ a, ¬ (k + 47 ≤ a ∧ a ≤ k + 53) → (upL (upL (ad4 k L (nI 310)) (k + 49) ((ad4 k L (nI 310) (k + 49)).set (L (k + 47)).length (nI 0))) (k + 51) ((upL (ad4 k L (nI 310)) (k + 49) ((ad4 k L (nI 310) (k + 49)).set (L (k + 47)).length (nI 0)) (k + 51)).set (L (k + 47)).length (nI j))) a = L a := fun a w1 => by rw [upL_n _ _ (by omega), upL_n _ _ (by omega), ad4_n _ (by omega)]
              refine ⟨I7, 1, a_u2 B5 186 49 (nI (1400 * h + md)), J5, ?_, ?_, Or.inr ⟨rfl, wg_of hnod hng hC9 H6 (by omega) (by omega) (by rw [hLs _ (by omega)]; omega) (by omega) (by omega) (by rw [hLs _ (by omega)]; omega) (u := 1400 * h + md) (a_u2_s _ _ _ _) (fun Q Rn Rc X hQ hRn => ⟨by omega, by rw [hQ]; exact ⟨Nat.le_refl _, by omega⟩, by omega, by rw [hRn]; exact ⟨Nat.le_refl _, by omega⟩, Or.inr (Or.inr (Or.inr (Or.inr (Or.inr (Or.inr (Or.inr (Or.inr (Or.inr (Or.inr (Or.inl ⟨j, s.2.2.2.1, by rw [a_u2_n _ _ (by omega)]; exact m3, hg.1, by rw [a_u2_n _ _ (by omega), m4, hsg], hg.2.1, by rw [gm_get z10, z11], by omega, by rw [gm_get w10, w11, et], fun z => hv3 ((hasC_G _).mp (by rw [gm_set]; exact z)), by rw [a_u2_n _ _ (by omega)]; exact m5, hg.2.2.1, rfl⟩))))))))))⟩) (fr4.trans (fun c w1 w2 w3 => fI c w1 (by omega) (by omega))) (((rp4.trans (rP_206 (sg n j) 0) (Nat.le_refl md) (Nat.le_refl nest)).trans (rS_rP m8) (Nat.le_refl md) (Nat.le_refl nest)).trans (rP_sc (by omega) _) (Nat.le_refl md) (Nat.le_refl nest)) (by repeat (first | exact lk_rfl | apply lk_6 | apply lk_8 | apply lk_0))⟩⟩
              · unfold mX3_readSame_96
                rw [hF, p1, sb, p4, sb]
              · rw [m1, sb, sb, if_pos (Or.inr rfl)]
          · rw [if_neg et, if_pos rfl, if_neg (fun z => et ((nI_eq (by omega) (by omega)).mp z))]
            obtain ⟨I9, B9, a1, a2, a3, a4⟩ := pbad w6 H4 (f := 3) (by decide) (nI t.2.2)
            obtain ⟨I', b1, b2⟩ := pfu_PL (PL.pre (cQ_FQ fr4) (rP_RX rp4) a3) (c' := b + 1) (fun f p hf => pfu_mono (pf_s68 hF hf (nI (L (k + 47)).length) (nI t.2.2) (nI 0) (nI j)) (Nat.le_succ b) (by omega))
            exact ⟨I', 0, B9, J4, by rw [a1, sb]; exact b1, bad1 (rBad_ok a2), Or.inl ⟨rfl, b2⟩⟩
    · rw [if_neg ej]
      obtain ⟨I9, B9, a1, a2, a3⟩ := jbad2 k4 (cf_RS z8 H2.1.1) (cr_9 z6) (cf_FX z8) h (f := 4) (by decide) (nI u.2.2)
      obtain ⟨I', b1, b2⟩ := fin1 (pre2 a3) (fun f p hf => pfo_ret hf (nI j))
      refine ⟨I', 0, B9, J2, ?_, bad1 (by rw [cr_4 k4]; exact rBad_ok a2), Or.inl ⟨rfl, b2⟩⟩
      unfold mX3_readJoined_44 mX3_readJoined_53
      rw [if_neg (nI_ne0 (by omega) (by omega)), if_neg (by decide), a1, sb]
      exact b1
end
