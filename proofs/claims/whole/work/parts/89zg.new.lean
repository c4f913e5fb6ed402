/-! NEW AND GO (pure) -/
theorem ft_fr {I I' : iT} {x : Int32} (h : mX3_readFreshThing I = some (x, I')) : ∀ b, b ≠ 6 → I' b = I b := by
  intro b hb
  unfold mX3_readFreshThing at h
  obtain ⟨y, e1, h⟩ := bi_some h
  obtain ⟨y2, _, h⟩ := bi_some h
  have hy := tn_fr (x := y.1) (I' := y.2) e1 b hb
  rcases if_some h with h | h
  · have e : y.2 = I' := congrArg Prod.snd (Option.some.inj h)
    rw [← e]; exact hy
  · obtain ⟨z, e2, e3⟩ := bi_some h
    have e : z = I' := congrArg Prod.snd (Option.some.inj e3)
    subst e
    rw [ref_fr e2 b hb]; exact hy
theorem wa_fr {I I' : iT} {x : Int32} (h : mX2_want I x = some I') : ∀ b, b ≠ 6 → I' b = I b := by
  intro b hb
  unfold mX2_want at h
  rcases if_some h with h | h
  · obtain ⟨z, e2, e3⟩ := bi_some h
    have e : z = I' := Option.some.inj e3
    subst e
    exact adv_fr e2 b hb
  · obtain ⟨z, e2, e3⟩ := bi_some h
    have e : z = I' := Option.some.inj e3
    subst e
    exact ref_fr e2 b hb
theorem fd64 : ∀ f, f < 12 → (nI f).toInt64 = lN f := by decide +kernel
section
variable {k : Nat} {f p : Int32} {b : Nat} {I : iT} {F : fT}
/-- the class behind the ARGS of a new -/
def nwT (k : Nat) (I : iT) (x y κ : Int32) : Option iT := (mX4_at (k + 35) I x).bind fun q7 => (mX5_add I y q7).bind fun q8 => (mX4_put (k + 49) q8.2 κ q8.1).bind fun q9 => some q9
theorem pf_nwT (hp : PF k f p b I) (hb : b + 1 ≤ 10000) (x y κ : Int32) : PFu k f p (b + 1) I (nwT k I x y κ) := by
  have hk := pf_k hp
  unfold nwT
  exact pfu_r (fm_at hp.1 (by unfold rowA; omega) _) (fun v => pfu_o (pf_add hp hb _ _) (fun x I1 h1 => pfu_u (pf_putB h1 (by unfold rowB; omega) _ _) (fun I2 h2 => pfu_ret h2)))
end
section
variable {k h M n : Nat} {D : List Df} {F : fT} {I B : iT} {J : jT} {L : lT} {bs : List Nat} {t : Tok} {r : List Tok} {P md nest wd b z : Nat} {S : List Sl} {a6 a8 a0 : List Int32}
theorem st_new (R : sc_12actT) (hC : CR I B J bs t r) (H : PS k h M n D F I B J L t.2.2 md nest S a6 a8 a0 wd b 0) (hS1 : S.length + 1 ≤ 5 + wd) (q : t.1 = 309) : SO k h M n D F I B J L bs t.2.2 md nest S a6 a8 a0 wd b (mX3_readNew I F (nI nest)) (bX12_act R B J 109) := by
  have hk0 := H.1.1.1
  have hF := H.2.1.1
  have hnod := H.2.2.1
  have bb := H.1.2.2.2.2.2.2.2
  have bn := H.2.2.2.2.2.1
  have hbb := H.2.2.2.2.2.2.2.2
  have htl : tl 309 = 3 := by decide
  have hh := H.1.2.2.2.2.1.1
  obtain ⟨u0, r0, y1, y2, y3⟩ := tkl_more hC.2.2.1 (by omega)
  have hend := tkl_end r0 u0 y2
  rw [q, htl] at y3
  have hlen : (L (k + 47)).length < 2 ^ 31 := by omega
  obtain ⟨I1, e1, H1, f1⟩ := ps_node H (by omega) (nI 309)
  have hC1 : CR I1 B J bs t r := CR_I hC (f1 6 (by omega)) (f1 9 (by omega)) (f1 10 (by omega)) (f1 11 (by omega))
  obtain ⟨u, r', I2, B2, J2, k1, k2, k3, k4, k5, k6, k7⟩ := jadv hC1 (by omega)
  rw [q, htl] at k5
  have H2 := ps_cur H1 k6 k7 (P' := u.2.2) (by omega)
  have fr2 : cQ k I I2 := (show cQ k I I1 from fun c q1 q2 q3 => f1 c (by omega)).trans (cf_cQ k6)
  have rp2 : rP h md nest B J B2 J2 := rf_rP k7
  have eR : bX12_act R B J 109 = (mX12_news B2 J2).bind fun q27 => if q27.1 = 0 ∨ q27.1 = 1 then some (q27.1, q27.2.1, q27.2.2) else none := by
    unfold bX12_act
    rw [if_neg (by decide), if_neg (by decide), k3, sb]
    rfl
  have eC : mX3_readNew I F (nI nest) = (mX3_readFreshThing I2).bind fun q3 => (mX2_want q3.2 61).bind fun q4 => (mX3_readDefAhead q4 F).bind fun q5 => (mX3_readArgs q5.2 F (nI (L (k + 47)).length) q5.1 (nI nest)).bind fun q6 => nwT k q6 q5.1 q3.1 (nI (L (k + 47)).length) := by
    unfold mX3_readNew
    rw [hF]
    show ((mX0_addNode k I (nI 309)).bind _) = _
    rw [e1, sb, k2, sb]
    rfl
  have bad1 : ∀ {o : Option (Int32 × iT × jT)} {B9 : iT} {J9 : jT}, o = some (0, B9, J9) → (o.bind fun q28 => if q28.1 = 0 ∨ q28.1 = 1 then some (q28.1, q28.2.1, q28.2.2) else none) = some (0, B9, J9) := by
    intro o B9 J9 e
    rw [e, sb, if_pos (Or.inl rfl)]
  rw [eR, eC]
  -- the class behind a fault before the NAME of the DEF
  have finD : ∀ {f p : Int32} {I9 : iT} (y : Int32), PF k f p b I9 → (∀ q, q ≠ 6 → I9 q = I2 q) → PFu k f p (b + 1) I9 ((mX3_readDefAhead I9 F).bind fun q5 => (mX3_readArgs q5.2 F (nI (L (k + 47)).length) q5.1 (nI nest)).bind fun q6 => nwT k q6 q5.1 y (nI (L (k + 47)).length)) := by
    intro f p I9 y hf hfr
    have hR9 : RS I9 k (ad4 k L (nI 309)) := rs_keep H2.1.1 (fun a ha => by unfold rowA at ha; exact ⟨hfr a (by omega), hfr (a + 1) (by omega)⟩)
    rw [pf_def hF hf hR9 H2.2.2.2.1, sb]
    exact pfu_u (pf_argsN hF hf _ _) (fun I' h' => pf_nwT h' (by omega) _ _ _)
  unfold mX12_news
  rcases jfree k4 H2.1 (ps_scp H2) (by omega) with ⟨x, I3, B3, c1, c2, c3⟩ | ⟨u3, r3, I3, B3, J3, z1, z2, z3, z4, z5, z6, z7, z8, z9, z10, z11, z12, z13⟩
  · have ffr := ft_fr c1
    obtain ⟨I', b1, b2⟩ := pfu_PL (PL.pre (cQ_FQ fr2) (rP_RX rp2) c3) (c' := b + 1) (o := (mX2_want I3 61).bind fun q4 => (mX3_readDefAhead q4 F).bind fun q5 => (mX3_readArgs q5.2 F (nI (L (k + 47)).length) q5.1 (nI nest)).bind fun q6 => nwT k q6 q5.1 x (nI (L (k + 47)).length)) (fun f p hf => by
      rw [fm_want hf.1 (by decide), sb]
      exact finD x hf ffr)
    exact ⟨I', 0, B3, J2, by rw [c1, sb]; exact b1, bad1 (by rw [c2, sb, if_pos rfl]), Or.inl ⟨rfl, b2⟩⟩
  · rw [z5, sb, z6, sb, if_neg i10]
    show SO k h M n D F I B J L bs t.2.2 md nest S a6 a8 a0 wd b ((mX2_want I3 61).bind fun q4 => (mX3_readDefAhead q4 F).bind fun q5 => (mX3_readArgs q5.2 F (nI (L (k + 47)).length) q5.1 (nI nest)).bind fun q6 => nwT k q6 q5.1 (nI (cN u.2.1)) (nI (L (k + 47)).length)) (((mX12_look0 B2 J2).bind fun q2 => (mX12_need q2.1 q2.2 61).bind fun q3 => if q3.1 = 0 then some (0, q3.2.1, q3.2.2) else (mX12_call q3.2.1 q3.2.2).bind fun q4 => if q4.1 = 0 then some (0, q4.2.1, q4.2.2) else if inb ((12 * (q4.2.1 186 32)) + (q4.2.1 186 46)) 24 then (mX12_newSlot q4.2.1 q4.2.2 (J2 186 6) 2 (q4.2.1 200 ((12 * (q4.2.1 186 32)) + (q4.2.1 186 46)).toNatClampNeg)).bind fun q5 => (mX12_node q5.2.1 q5.2.2 48 q5.1 (q4.2.1 186 50) ((q4.2.1 186 46).toInt64)).bind fun q6 => some (1, a_u2 q6.2.1 186 49 q6.1, q6.2.2) else none).bind fun q27 => if q27.1 = 0 ∨ q27.1 = 1 then some (q27.1, q27.2.1, q27.2.2) else none)
    rw [z9, sb, z7]
    have H3 := ps_cur H2 z12 z13 (P' := u3.2.2) (by omega)
    have fr3 : cQ k I I3 := fr2.trans (cf_cQ z12)
    have rp3 : rP h md nest B J B3 J3 := rp2.trans (rf_rP z13) (Nat.le_refl md) (Nat.le_refl nest)
    rcases jneed z10 H3.1.1 h 61 (by omega) with ⟨v1, u4, r4, I4, B4, J4, l1, l2, l3, l4, l5, l6, l7⟩ | ⟨v1, I4, B4, l2, l3, l4⟩
    · have htl4 : tl u3.1 = 1 := by rw [v1]; decide
      rw [htl4] at l5
      have H4 := ps_cur H3 l6 l7 (P' := u4.2.2) (by omega)
      have fr4 : cQ k I I4 := fr3.trans (cf_cQ l6)
      have rp4 : rP h md nest B J B4 J4 := rp3.trans (rf_rP l7) (Nat.le_refl md) (Nat.le_refl nest)
      have e59 : ad4 k L (nI 309) (k + 59) = L (k + 59) := ad4_n _ (by omega)
      have eC4 : ((mX2_want I3 61).bind fun q4 => (mX3_readDefAhead q4 F).bind fun q5 => (mX3_readArgs q5.2 F (nI (L (k + 47)).length) q5.1 (nI nest)).bind fun q6 => nwT k q6 q5.1 (nI (cN u.2.1)) (nI (L (k + 47)).length)) = (mX3_readDefAhead I4 F).bind fun q5 => (mX3_readArgs q5.2 F (nI (L (k + 47)).length) q5.1 (nI nest)).bind fun q6 => nwT k q6 q5.1 (nI (cN u.2.1)) (nI (L (k + 47)).length) := by
        show ((mX2_want I3 (nI 61)).bind _) = _
        rw [l2, sb]
      rw [eC4]
      have eR4 : mX12_need B3 J3 61 = some (1, B4, J4) := l3
      rw [eR4, sb, if_neg i10]
      show SO k h M n D F I B J L bs t.2.2 md nest S a6 a8 a0 wd b _ (((mX12_call B4 J4).bind fun q4 => if q4.1 = 0 then some (0, q4.2.1, q4.2.2) else if inb ((12 * (q4.2.1 186 32)) + (q4.2.1 186 46)) 24 then (mX12_newSlot q4.2.1 q4.2.2 (lN (rN u.2.1)) 2 (q4.2.1 200 ((12 * (q4.2.1 186 32)) + (q4.2.1 186 46)).toNatClampNeg)).bind fun q5 => (mX12_node q5.2.1 q5.2.2 48 q5.1 (q4.2.1 186 50) ((q4.2.1 186 46).toInt64)).bind fun q6 => some (1, a_u2 q6.2.1 186 49 q6.1, q6.2.2) else none).bind fun q27 => if q27.1 = 0 ∨ q27.1 = 1 then some (q27.1, q27.2.1, q27.2.2) else none)
      rcases call_ok l4 H4 hnod (ng_ad4 (k := k) (L := L) (nI 309)) (by omega) (by rw [e59]; omega) with ⟨fx, I5, I6, B6, J6, c1, c2, c3, c4⟩ | ⟨fd, df, I5, I6, B6, J6, t6, r6, L6, S6, md6, c6, c8, g1, g2, g3, g4, g5, g6, g7, g8, g9, g10, g11, g12, g13, g14, g15, g16, g17, g18, g19, g20, g21, g22, g23⟩
      · obtain ⟨I', b1, b2⟩ := pfu_PL (PL.pre (cQ_FQ fr4) (rP_RX rp4) c4) (c' := b + 1) (fun f p hf => pf_nwT hf (by omega) fx (nI (cN u.2.1)) (nI (L (k + 47)).length))
        refine ⟨I', 0, B6, J6, ?_, bad1 (by rw [c3, sb, if_pos rfl]), Or.inl ⟨rfl, b2⟩⟩
        rw [c1, sb]
        show ((mX3_readArgs I5 F (nI (L (k + 47)).length) fx (nI nest)).bind _) = _
        rw [c2, sb]
        exact b1
      · obtain ⟨x1', x2', x35, ⟨ug, pg, xg1, xg2, xg3⟩, _⟩ := g7.2.2.2.1.2.2.2 fd df g4
        have e12 : (12 : Int32) * nI h + nI fd = nI (12 * h + fd) := by
          have : (12 : Int32) * nI h = nI (12 * h) := pk_mul 12 h
          rw [this, nI_add]
        have i24 : inb (nI (12 * h + fd)) 24 := vp_in_nI (by omega) (by omega)
        have c24 : (nI (12 * h + fd)).toNatClampNeg = 12 * h + fd := nI_clamp (by omega)
        have e32 : B6 186 32 = nI h := g7.2.1.2
        have e35 : mX4_at (k + 35) I6 (nI fd) = some (nI df.2.2) := by rw [rs_g g7.1.1 (a := k + 35) (by unfold rowA; omega) (by omega), x35]
        obtain ⟨I7, B7, J7, x1, x2, H7, x4, x5, x6⟩ := ps_add g7 (s := (2, u.2.1, ug, df.2.2, pg)) z2 (fun i s' s1 s2 => z3 i s' (g23 i s' s1 s2) s2) (by omega) (Or.inr ⟨rfl, xg2, xg3⟩) (nI ug) (fun _ => rfl)
        rw [if_pos rfl] at x1
        rw [if_neg (show ¬ (2 : Nat) = 1 by decide)] at x2
        obtain ⟨I8, p1, H8, p3⟩ := ps_put H7 (a := k + 49) (by omega) (j := (L (k + 47)).length) hlen (nI S6.length)
        have hP6 := cr_end g6
        obtain ⟨B9, J9, m1, m2, m3, m4, m5, m6, m7, m8, m9, m10⟩ := ps_rnode H8 (by omega) (by omega) 48 (nI S6.length) (B6 186 50) (lN fd)
        have H9 := ps_49 m2 49 (by omega) (nI (1400 * h + md6))
        have fI : ∀ c, c ≠ 6 → ¬ (136 ≤ c ∧ c ≤ 141) → ¬ (k + 47 ≤ c ∧ c ≤ k + 58) → I8 c = I6 c := fun c w1 w2 w3 => by rw [p3 c w3, x4 c w2]
        have hC9 : CR I8 (a_u2 B9 186 49 (nI (1400 * h + md6))) J9 bs t6 r6 := CR_B (CR_I g6 (by rw [p3 6 (by omega), x4 6 (by omega)]) (by rw [p3 9 (by omega), x4 9 (by omega)]) (by rw [p3 10 (by omega), x4 10 (by omega)]) (by rw [p3 11 (by omega), x4 11 (by omega)])) (fun j _ _ => by rw [a_u2_n _ _ (by omega), m9 _ _ (by omega) (by omega), x5 _ _ (by omega) (by omega)]) (funext fun j => by rw [a_u2_n _ _ (by omega), m9 _ _ (by omega) (by omega), x5 _ _ (by omega) (by omega)]) (by rw [m10 _ _ (by omega), x6 _ _ (by omega)])
        have hng := ng_49 hnod g8 (nI S6.length)
        have hg := ng_g hnod hng
        have hL8 : ∀ a, a ≠ k + 49 → (upL L6 (k + 49) ((L6 (k + 49)).set (L (k + 47)).length (nI S6.length))) a = L6 a := fun a w => upL_n _ _ w
        have e19 : L6 (k + 19) = L6 (k + 19) := rfl
        have ad19 : ad4 k L (nI 309) (k + 19) = L (k + 19) := ad4_n _ (by omega)
        rw [ad19] at g13
        rw [e59] at g15 g10
        have hPK : PK k L6 (upL L6 (k + 49) ((L6 (k + 49)).set (L (k + 47)).length (nI S6.length))) B6 (a_u2 B9 186 49 (nI (1400 * h + md6))) J6 J9 (fun v => 1400 * h + md ≤ v ∧ v < 1400 * h + md6) (fun _ => False) (fun _ => False) := ⟨g7.1.2.2.1, TE_eq (fun a q1 q2 => hL8 a (by omega)), g7.1.2.2.2.1, fun a w1 w2 => ⟨[], by rw [hL8 a (by omega), List.append_nil]⟩, ⟨[], by rw [hL8 _ (by omega), List.append_nil]⟩, by rw [hL8 _ (by omega)]; exact Nat.le_refl _, by rw [hL8 _ (by omega)]; exact Nat.le_refl _, fun v hv => ⟨by rw [a_u2_n _ _ (by omega), m9 _ _ (by omega) (by omega), x5 _ _ (by omega) (by omega)], by rw [a_u2_n _ _ (by omega), m9 _ _ (by omega) (by omega), x5 _ _ (by omega) (by omega)], by rw [a_u2_n _ _ (by omega), m9 _ _ (by omega) (by omega), x5 _ _ (by omega) (by omega)], by rw [a_u2_n _ _ (by omega), m9 _ _ (by omega) (by omega), x5 _ _ (by omega) (by omega)], by rw [m10 _ _ (by omega), x6 _ _ (by omega)]⟩, fun _ z => z.elim, fun _ z => z.elim⟩
        have hArg := arg_to (n := n) (Q' := fun v => 1400 * h + md ≤ v ∧ v < 1400 * h + (md6 + 1) ∧ v ≠ 1400 * h + md6) hPK (fun v hv => ⟨hv.1, by omega, by omega⟩) _ _ _ _ _ g10
        refine ⟨I8, 1, a_u2 B9 186 49 (nI (1400 * h + md6)), J9, ?_, ?_, Or.inr ⟨rfl, sg_of hnod hng hC9 H9 (by omega) (by omega) (by rw [hL8 _ (by omega)]; omega) (by omega) (by omega) (by rw [hL8 _ (by omega)]; omega) (u := 1400 * h + md6) (a_u2_s _ _ _ _) (by omega) (by omega) (by rw [a_u2_n _ _ (by omega)]; exact m6) ⟨by omega, by omega, ⟨Nat.le_refl _, by omega⟩, Or.inr (Or.inr (Or.inr (Or.inr (Or.inr (Or.inr (Or.inl ⟨fd, df, (L (k + 59)).length, gm S6, by rw [a_u2_n _ _ (by omega)]; exact m3, hg.1, g4, m7, hg.2.2.1, by rw [hg.2.2.2.1, e59], by rw [a_u2_n _ _ (by omega), m5]; exact hArg, ⟨by rw [a_u2_n _ _ (by omega), m4, gm_len, g21], by have w80 := g7.2.2.2.2.1.2.2.1; have w81 := H9.2.2.2.2.1.2.2.2; rw [List.length_append, List.length_singleton] at w81; rw [gm_len, ← g21]; omega⟩, by rw [hg.2.1, gm_len, g21], by rw [gm_app]⟩))))))⟩ ((fr4.trans g18).trans (fun c w1 w2 w3 => fI c w1 (by omega) (by omega))) ((((rp4.trans g19 (Nat.le_refl md) (Nat.le_refl nest)).trans (show rP h md nest B6 J6 B7 J7 from ⟨fun c j w1 w2 w3 w4 => x5 c j (by omega) (by omega), fun c j w1 w2 w3 w4 => x6 c j w3⟩) (Nat.le_refl md) (Nat.le_refl nest)).trans (rS_rP m8) g12 (Nat.le_refl nest)).trans (rP_sc (by omega) _) (Nat.le_refl md) (Nat.le_refl nest)) (by apply LK.trans g20; repeat (first | exact lk_rfl | apply lk_6 | apply lk_8 | apply lk_0)) (Or.inr ⟨_, by rw [e59]; omega, rfl⟩)⟩⟩
        · rw [g1, sb]
          show ((mX3_readArgs I5 F (nI (L (k + 47)).length) (nI fd) (nI nest)).bind _) = _
          rw [g2, sb]
          unfold nwT
          show ((mX4_at (k + 35) I6 (nI fd)).bind _) = _
          rw [e35, sb, x1, sb]
          show ((mX4_put (k + 49) I7 (nI (L (k + 47)).length) (nI S6.length)).bind _) = _
          rw [p1, sb]
        · rw [g3, sb, if_neg i10]
          show ((if inb ((12 * (B6 186 32)) + (B6 186 46)) 24 then (mX12_newSlot B6 J6 (lN (rN u.2.1)) 2 (B6 200 ((12 * (B6 186 32)) + (B6 186 46)).toNatClampNeg)).bind fun q5 => (mX12_node q5.2.1 q5.2.2 48 q5.1 (B6 186 50) ((B6 186 46).toInt64)).bind fun q6 => some (1, a_u2 q6.2.1 186 49 q6.1, q6.2.2) else none).bind _) = _
          rw [g9, e32, e12, if_pos i24, congrArg (B6 200) c24, xg1, x2, sb, fd64 fd (by omega), m1, sb, sb, if_pos (Or.inr rfl)]
    · have ffr : ∀ q, q ≠ 6 → I4 q = I2 q := fun c w => by rw [wa_fr l2 c w, cf_b z12 w]
      obtain ⟨I', b1, b2⟩ := pfu_PL (PL.pre (cQ_FQ fr3) (rP_RX rp3) (fail_PL l4 (ps_scp H3) (by omega))) (c' := b + 1) (fun f p hf => finD (nI (cN u.2.1)) hf ffr)
      refine ⟨I', 0, B4, J3, ?_, bad1 ?_, Or.inl ⟨rfl, b2⟩⟩
      · show ((mX2_want I3 (nI 61)).bind _) = _
        rw [l2, sb]
        exact b1
      · show ((mX12_need B3 J3 (nI 61)).bind _) = _
        rw [l3, sb, if_pos rfl]
end
