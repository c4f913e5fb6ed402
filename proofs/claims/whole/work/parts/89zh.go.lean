/-! GO (pure) -/
section
variable {k h M n : Nat} {D : List Df} {F : fT} {I B : iT} {J : jT} {L : lT} {bs : List Nat} {t : Tok} {r : List Tok} {P md nest wd b z : Nat} {S : List Sl} {a6 a8 a0 : List Int32}
/-- the class behind the ARGS of a go -/
def goT (k : Nat) (I : iT) (F : fT) (x1 κ pl f : Int32) : Option iT := (mX4_at (k + 35) I f).bind fun q7 => (mX5_talkAt I 0).bind fun q8 => if q7 = q8 then mX3_readGo_72 I F x1 κ pl f else (mX2_refuse I 3 pl).bind fun q9 => mX3_readGo_72 q9 F x1 κ pl f
theorem pf_g72 {f p : Int32} (hp : PF k f p b I) (x1 x2 x3 x4 : Int32) : PFu k f p b I (mX3_readGo_72 I F x1 x2 x3 x4) := by
  unfold mX3_readGo_72
  rw [fm_refuse hp.1, sb]
  exact pfu_r (pf_has hp) (fun v => pfu_if (pfu_ret hp) (pfu_ret hp))
theorem pf_goT {f p : Int32} (hp : PF k f p b I) (x1 κ pl fx : Int32) : PFu k f p b I (goT k I F x1 κ pl fx) := by
  have hk := pf_k hp
  unfold goT
  rw [fm_refuse hp.1, sb]
  exact pfu_r (fm_at hp.1 (by unfold rowA; omega) _) (fun v => pfu_r (pf_talk hp _) (fun v2 => pfu_if (pf_g72 hp _ _ _ _) (pf_g72 hp _ _ _ _)))
theorem st_go (R : sc_12actT) (hC : CR I B J bs t r) (H : PS k h M n D F I B J L t.2.2 md nest S a6 a8 a0 wd b 0) (q : t.1 = 311) : EO k h M n D F I B J L bs t.2.2 md nest S a6 a8 a0 wd b (mX3_readGo I F (nI nest)) (bX12_act R B J 111) := by
  have hk0 := H.1.1.1
  have hF := H.2.1.1
  have hnod := H.2.2.1
  have bb := H.1.2.2.2.2.2.2.2
  have bn := H.2.2.2.2.2.1
  have hbb := H.2.2.2.2.2.2.2.2
  have htl : tl 311 = 2 := by decide
  have hh := H.1.2.2.2.2.1.1
  obtain ⟨u0, r0, y1, y2, y3⟩ := tkl_more hC.2.2.1 (by omega)
  have hend := tkl_end r0 u0 y2
  rw [q, htl] at y3
  have hlen : (L (k + 47)).length < 2 ^ 31 := by omega
  obtain ⟨I1, e1, H1, f1⟩ := ps_node H (by omega) (nI 311)
  have hC1 : CR I1 B J bs t r := CR_I hC (f1 6 (by omega)) (f1 9 (by omega)) (f1 10 (by omega)) (f1 11 (by omega))
  obtain ⟨u, r', I2, B2, J2, k1, k2, k3, k4, k5, k6, k7⟩ := jadv hC1 (by omega)
  rw [q, htl] at k5
  have H2 := ps_cur H1 k6 k7 (P' := u.2.2) (by omega)
  have fr2 : cQ k I I2 := (show cQ k I I1 from fun c q1 q2 q3 => f1 c (by omega)).trans (cf_cQ k6)
  have rp2 : rP h md nest B J B2 J2 := rf_rP k7
  have eR : bX12_act R B J 111 = ((mX12_call B2 J2).bind fun q1 => if q1.1 = 0 then some (0, q1.2.1, q1.2.2) else if inb ((12 * (q1.2.1 186 32)) + (q1.2.1 186 46)) 24 then (mX12_given q1.2.1 q1.2.2).bind fun q2 => if inb q2 128 then (mX12_alike SF q1.2.1 q1.2.2 (q1.2.1 200 ((12 * (q1.2.1 186 32)) + (q1.2.1 186 46)).toNatClampNeg) (q1.2.1 209 q2.toNatClampNeg)).bind fun q3 => if q3 = 0 then rBad q1.2.1 q1.2.2 3 (nI t.2.2) else (mX12_has q1.2.1 q1.2.2).bind fun q4 => if q4 = 0 then (mX12_node q1.2.1 q1.2.2 49 (q1.2.1 186 46) (q1.2.1 186 50) 0).bind fun q5 => some (1, a_u2 q5.2.1 186 49 q5.1, q5.2.2) else rBad q1.2.1 q1.2.2 4 (nI t.2.2) else none else none).bind fun q29 => if q29.1 = 0 ∨ q29.1 = 1 then some (q29.1, q29.2.1, q29.2.2) else none := by
    unfold bX12_act
    rw [if_neg (by decide), if_neg (by decide), k3, sb, cr_4 hC]
    rfl
  have eC : mX3_readGo I F (nI nest) = (mX3_readDefAhead I2 F).bind fun q5 => (mX3_readArgs q5.2 F (nI (L (k + 47)).length) q5.1 (nI nest)).bind fun q6 => goT k q6 F (nI nest) (nI (L (k + 47)).length) (I1 6 8) q5.1 := by
    unfold mX3_readGo
    rw [hF]
    show ((mX0_addNode k I (nI 311)).bind _) = _
    rw [e1, sb, k2, sb]
    rfl
  rw [cr_8 hC1] at eC
  have bad1 : ∀ {o : Option (Int32 × iT × jT)} {B9 : iT} {J9 : jT}, o = some (0, B9, J9) → (o.bind fun q28 => if q28.1 = 0 ∨ q28.1 = 1 then some (q28.1, q28.2.1, q28.2.2) else none) = some (0, B9, J9) := by
    intro o B9 J9 e
    rw [e, sb, if_pos (Or.inl rfl)]
  have e59 : ad4 k L (nI 311) (k + 59) = L (k + 59) := ad4_n _ (by omega)
  rw [eR, eC]
  rcases call_ok k4 H2 hnod (ng_ad4 (k := k) (L := L) (nI 311)) (by omega) (by rw [e59]; omega) with ⟨fx, I5, I6, B6, J6, c1, c2, c3, c4⟩ | ⟨fd, df, I5, I6, B6, J6, t6, r6, L6, S6, md6, c6, c8, g1, g2, g3, g4, g5, g6, g7, g8, g9, g10, g11, g12, g13, g14, g15, g16, g17, g18, g19, g20, g21, g22, g23⟩
  · obtain ⟨I', b1, b2⟩ := pfu_PL (PL.pre (cQ_FQ fr2) (rP_RX rp2) c4) (c' := b + 1) (fun f p hf => pfu_mono (pf_goT (F := F) hf (nI nest) (nI (L (k + 47)).length) (nI t.2.2) fx) (Nat.le_succ b) (by omega))
    refine ⟨I', 0, B6, J6, ?_, bad1 (by rw [c3, sb, if_pos rfl]), Or.inl ⟨rfl, b2⟩⟩
    rw [c1, sb]
    show ((mX3_readArgs I5 F (nI (L (k + 47)).length) fx (nI nest)).bind _) = _
    rw [c2, sb]
    exact b1
  · obtain ⟨x1', x2', x35, ⟨ug, pg, xg1, xg2, xg3⟩, _⟩ := g7.2.2.2.1.2.2.2 fd df g4
    have e12 : (12 : Int32) * nI h + nI fd = nI (12 * h + fd) := by
      have : (12 : Int32) * nI h = nI (12 * h) := pk_mul 12 h
      rw [this, nI_add]
    have i24 : inb (nI (12 * h + fd)) 24 := vp_in_nI (by omega) (by omega)
    have c24 : (nI (12 * h + fd)).toNatClampNeg = 12 * h + fd := nI_clamp (by omega)
    have e32 : B6 186 32 = nI h := g7.2.1.2
    have e35 : mX4_at (k + 35) I6 (nI fd) = some (nI df.2.2) := by rw [rs_g g7.1.1 (a := k + 35) (by unfold rowA; omega) (by omega), x35]
    have hsr := g7.1.2.2.2.2.2.1
    have hT := g7.1.2.2.1
    have hK := rs_K g7.1.1
    have hN5 := len10 g7.1.1
    obtain ⟨s0, hs0, hs02⟩ := hsr.2.2.2.2
    obtain ⟨w1, w2, w3⟩ := (hsr.2.2.1 0 s0 hs0).2.2.2.2 hs02
    have us := tr_u w3
    have ug' := tr_u xg3
    have hsg : sg n 0 = n := by unfold sg; rw [if_pos rfl]
    rw [hsg] at w1
    have t0 := sr_talk hsr hs0
    rw [if_pos hs02] at t0
    have hgv := sr_given hsr
    have hn4 := hsr.2.1
    have n128 := in128 (show n < 128 by omega)
    have nc := cl128 (show n < 128 by omega)
    have hal := al_ok hT hK hN5 _ _ _ _ _ _ _ _ SF xg3 w3 (by unfold SF; omega)
    have fr6 : cQ k I I6 := fr2.trans g18
    have rp6 : rP h md nest B J B6 J6 := rp2.trans g19 (Nat.le_refl md) (Nat.le_refl nest)
    have hS0 : S[0]? = some s0 := by rw [← g22]; exact hs0
    have eC6 : ((mX3_readDefAhead I2 F).bind fun q5 => (mX3_readArgs q5.2 F (nI (L (k + 47)).length) q5.1 (nI nest)).bind fun q6 => goT k q6 F (nI nest) (nI (L (k + 47)).length) (nI t.2.2) q5.1) = if df.2.2 = s0.2.2.2.1 then mX3_readGo_72 I6 F (nI nest) (nI (L (k + 47)).length) (nI t.2.2) (nI fd) else (mX2_refuse I6 3 (nI t.2.2)).bind fun q9 => mX3_readGo_72 q9 F (nI nest) (nI (L (k + 47)).length) (nI t.2.2) (nI fd) := by
      rw [g1, sb]
      show ((mX3_readArgs I5 F (nI (L (k + 47)).length) (nI fd) (nI nest)).bind _) = _
      rw [g2, sb]
      unfold goT
      show ((mX4_at (k + 35) I6 (nI fd)).bind _) = _
      rw [e35, sb]
      show ((mX5_talkAt I6 (nI 0)).bind _) = _
      rw [t0, sb]
      by_cases et : df.2.2 = s0.2.2.2.1
      · rw [if_pos et, if_pos (by rw [et])]
      · rw [if_neg et, if_neg (fun z => et ((nI_eq (by omega) (by omega)).mp z))]
    rw [eC6, g3, sb, if_neg i10]
    show EO k h M n D F I B J L bs t.2.2 md nest S a6 a8 a0 wd b _ ((if inb ((12 * (B6 186 32)) + (B6 186 46)) 24 then (mX12_given B6 J6).bind fun q2 => if inb q2 128 then (mX12_alike SF B6 J6 (B6 200 ((12 * (B6 186 32)) + (B6 186 46)).toNatClampNeg) (B6 209 q2.toNatClampNeg)).bind fun q3 => if q3 = 0 then rBad B6 J6 3 (nI t.2.2) else (mX12_has B6 J6).bind fun q4 => if q4 = 0 then (mX12_node B6 J6 49 (B6 186 46) (B6 186 50) 0).bind fun q5 => some (1, a_u2 q5.2.1 186 49 q5.1, q5.2.2) else rBad B6 J6 4 (nI t.2.2) else none else none).bind fun q29 => if q29.1 = 0 ∨ q29.1 = 1 then some (q29.1, q29.2.1, q29.2.2) else none)
    rw [g9, e32, e12, if_pos i24, hgv, sb, if_pos n128, congrArg (B6 200) c24, xg1, congrArg (B6 209) nc, w1, hal, sb]
    by_cases et : df.2.2 = s0.2.2.2.1
    · rw [if_pos et, if_pos et, if_neg i10]
      obtain ⟨v, hv1, hv2, hv3⟩ := sr_has hsr hK
      unfold mX3_readGo_72
      rw [hv1, sb, hv2, sb]
      rcases hv3 with ⟨rfl, hv3⟩ | ⟨rfl, hv3⟩
      · rw [if_neg i10, if_neg i10]
        obtain ⟨I9, B9, a1, a2, a3, a4⟩ := pbad g6 g7 (f := 4) (by decide) (nI t.2.2)
        exact ⟨I9, 0, B9, J6, by rw [a1, sb], bad1 (rBad_ok a2), Or.inl ⟨rfl, (PL.pre (cQ_FQ fr6) (rP_RX rp6) a3).mono (Nat.le_succ b) (by omega)⟩⟩
      · rw [if_pos rfl, if_pos rfl]
        have hP6 := cr_end g6
        obtain ⟨B9, J9, m1, m2, m3, m4, m5, m6, m7, m8, m9, m10⟩ := ps_rnode g7 (by omega) (by omega) 49 (nI fd) (B6 186 50) 0
        have H9 := ps_49 m2 49 (by omega) (nI (1400 * h + md6))
        have hC9 : CR I6 (a_u2 B9 186 49 (nI (1400 * h + md6))) J9 bs t6 r6 := CR_B g6 (fun j _ _ => by rw [a_u2_n _ _ (by omega), m9 _ _ (by omega) (by omega)]) (funext fun j => by rw [a_u2_n _ _ (by omega), m9 _ _ (by omega) (by omega)]) (m10 _ _ (by omega))
        have hg := ng_g hnod g8
        have ad19 : ad4 k L (nI 311) (k + 19) = L (k + 19) := ad4_n _ (by omega)
        rw [ad19] at g13
        rw [e59] at g15 g10
        have hPK : PK k L6 L6 B6 (a_u2 B9 186 49 (nI (1400 * h + md6))) J6 J9 (fun v => 1400 * h + md ≤ v ∧ v < 1400 * h + md6) (fun _ => False) (fun _ => False) := ⟨g7.1.2.2.1, TE.rfl, g7.1.2.2.2.1, SE.rfl, ⟨[], by rw [List.append_nil]⟩, Nat.le_refl _, Nat.le_refl _, fun v hv => ⟨by rw [a_u2_n _ _ (by omega), m9 _ _ (by omega) (by omega)], by rw [a_u2_n _ _ (by omega), m9 _ _ (by omega) (by omega)], by rw [a_u2_n _ _ (by omega), m9 _ _ (by omega) (by omega)], by rw [a_u2_n _ _ (by omega), m9 _ _ (by omega) (by omega)], m10 _ _ (by omega)⟩, fun _ z => z.elim, fun _ z => z.elim⟩
        have hArg := arg_to (n := n) (Q' := fun v => 1400 * h + md ≤ v ∧ v < 1400 * h + (md6 + 1)) hPK (fun v hv => ⟨hv.1, by omega⟩) _ _ _ _ _ g10
        refine ⟨I6, 1, a_u2 B9 186 49 (nI (1400 * h + md6)), J9, rfl, ?_, Or.inr ⟨rfl, wg_of hnod g8 hC9 H9 (by omega) (by omega) (by omega) (by omega) (by omega) (by omega) (u := 1400 * h + md6) (a_u2_s _ _ _ _) (fun Q Rn Rc X hQ hRn => ⟨by omega, by rw [hQ]; exact ⟨by omega, by omega⟩, by omega, by rw [hRn]; exact ⟨Nat.le_refl _, by omega⟩, Or.inr (Or.inr (Or.inr (Or.inr (Or.inr (Or.inr (Or.inr (Or.inr (Or.inr (Or.inl ⟨fd, df, (L (k + 59)).length, gm S6, by rw [a_u2_n _ _ (by omega)]; exact m3, hg.1, g4, by rw [a_u2_n _ _ (by omega)]; exact m4, hg.2.2.1, by rw [hg.2.2.2.1, e59], by rw [a_u2_n _ _ (by omega), m5, hQ]; exact hArg, by rw [gm_get hS0, hs02, et], fun z => hv3 ((hasC_G _).mp z), rfl⟩)))))))))⟩) fr6 ((rp6.trans (rS_rP m8) g12 (Nat.le_refl nest)).trans (rP_sc (by omega) _) (Nat.le_refl md) (Nat.le_refl nest)) g20 (Or.inr ⟨_, by rw [e59]; omega, rfl⟩)⟩⟩
        rw [m1, sb, sb, if_pos (Or.inr rfl)]
    · rw [if_neg et, if_neg et, if_pos rfl]
      obtain ⟨I9, B9, a1, a2, a3, a4⟩ := pbad g6 g7 (f := 3) (by decide) (nI t.2.2)
      obtain ⟨I', b1, b2⟩ := pfu_PL (PL.pre (cQ_FQ fr6) (rP_RX rp6) a3) (c' := b + 1) (fun f p hf => pfu_mono (pf_g72 (F := F) hf (nI nest) (nI (L (k + 47)).length) (nI t.2.2) (nI fd)) (Nat.le_succ b) (by omega))
      exact ⟨I', 0, B9, J6, by rw [a1, sb]; exact b1, bad1 (rBad_ok a2), Or.inl ⟨rfl, b2⟩⟩
end
