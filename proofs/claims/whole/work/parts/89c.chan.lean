/-! THE CHANNEL BEHIND A WORD, in both (pure) -/
/-- word; the reference's code if the CHANNEL is given, had; the class's kind if given, had -/
def CW (w : Nat) (gc hc gk hk : Int32) : Prop := (w = 315 ∧ gc = 1 ∧ hc = -1 ∧ gk = 302 ∧ hk = 259) ∨ (w = 316 ∧ gc = -1 ∧ hc = 1 ∧ gk = 259 ∧ hk = 302) ∨ (w = 303 ∧ gc = 2 ∧ hc = 3 ∧ gk = 33 ∧ hk = 63) ∨ (w = 304 ∧ gc = 3 ∧ hc = 2 ∧ gk = 63 ∧ hk = 33) ∨ (w = 305 ∧ gc = 4 ∧ hc = 5 ∧ gk = 62 ∧ hk = 60) ∨ (w = 306 ∧ gc = 5 ∧ hc = 4 ∧ gk = 60 ∧ hk = 62) ∨ (w = 307 ∧ gc = 6 ∧ hc = 7 ∧ gk = 43 ∧ hk = 38) ∨ (w = 308 ∧ gc = 7 ∧ hc = 6 ∧ gk = 38 ∧ hk = 43)
theorem cw_talk {w : Nat} {gc hc gk hk : Int32} (h : CW w gc hc gk hk) : mX3_talkFor (nI w) 1 = some gk ∧ mX3_talkFor (nI w) 0 = some hk := by
  unfold CW at h
  rcases h with ⟨rfl, rfl, rfl, rfl, rfl⟩ | ⟨rfl, rfl, rfl, rfl, rfl⟩ | ⟨rfl, rfl, rfl, rfl, rfl⟩ | ⟨rfl, rfl, rfl, rfl, rfl⟩ | ⟨rfl, rfl, rfl, rfl, rfl⟩ | ⟨rfl, rfl, rfl, rfl, rfl⟩ | ⟨rfl, rfl, rfl, rfl, rfl⟩ | ⟨rfl, rfl, rfl, rfl, rfl⟩ <;> decide +kernel
theorem cw_eq {w : Nat} {gc hc gk hk : Int32} (h : CW w gc hc gk hk) {kd wc : Nat} (hk2 : KW kd wc) : (nI kd = gk ↔ nI wc = gc) ∧ (nI kd = hk ↔ nI wc = hc) := by
  unfold CW at h
  unfold KW kw6 at hk2
  rcases hk2 with ⟨rfl, rfl⟩ | ⟨rfl, rfl⟩ | ⟨rfl, rfl⟩ | ⟨rfl, rfl⟩ | ⟨rfl, rfl⟩ | ⟨rfl, rfl⟩ | ⟨rfl, rfl⟩ <;> rcases h with ⟨rfl, rfl, rfl, rfl, rfl⟩ | ⟨rfl, rfl, rfl, rfl, rfl⟩ | ⟨rfl, rfl, rfl, rfl, rfl⟩ | ⟨rfl, rfl, rfl, rfl, rfl⟩ | ⟨rfl, rfl, rfl, rfl, rfl⟩ | ⟨rfl, rfl, rfl, rfl, rfl⟩ | ⟨rfl, rfl, rfl, rfl, rfl⟩ | ⟨rfl, rfl, rfl, rfl, rfl⟩ <;> decide
section
variable {k h M n : Nat} {F : fT} {I B : iT} {J : jT} {L : lT} {bs : List Nat} {t : Tok} {r : List Tok} {P md nest lv b : Nat} {S : List Sl} {a6 a8 a0 : List Int32}
theorem pf_chan {f p : Int32} {c : Nat} (hF : F 134 4 = k) (hp : PF k f p c I) {w : Nat} {gc hc gk hk : Int32} (hw : CW w gc hc gk hk) (pl at0 t0 : Int32) : PFo k f p c I (mX3_readChannel_48 I F (nI w) pl at0 t0) := by
  obtain ⟨e1, e2⟩ := cw_talk hw
  have hk0 : k = 12 ∨ k = 73 := hp.1.1.elim fun _ z => z.1
  have h73 : ∀ s0 s2, (s0 = 0 ∨ s0 = 1) → PFo k f p c I (mX3_readChannel_73 I F (nI w) pl at0 t0 s0 (nI w) s2) := by
    intro s0 s2 hs
    unfold mX3_readChannel_73
    rw [fm_refuse hp.1, sb]
    rcases hs with z | z
    · subst z
      rw [e2, sb]
      exact pfo_if (pfo_ret hp _) (pfo_ret hp _)
    · subst z
      rw [e1, sb]
      exact pfo_if (pfo_ret hp _) (pfo_ret hp _)
  unfold mX3_readChannel_48
  rw [hF]
  exact pfo_r (fm_at hp.1 (by unfold rowA; omega) _) (fun v => pfo_if (h73 _ _ (Or.inr rfl)) (h73 _ _ (Or.inl rfl)))
/-- both read the CHANNEL that a WORD is for, or both refuse -/
theorem jchan (hF : F 134 4 = k) (hC : CR I B J bs t r) (H : XS k h M n F I B J L P md nest lv S a6 a8 a0) (hs : SCP b I) (hb : b ≤ 10000) {w : Nat} {gc hc gk hk : Int32} (hw : CW w gc hc gk hk) :
    (∃ x I' B' J', mX3_readChannel I F (nI w) = some (x, I') ∧ mX12_aChannel B J gc hc = some (0, B', J') ∧ PL k h b I B J I' B' J') ∨
    (∃ i s kd wc u r' I' B' J', t.1 = 256 ∧ S[i]? = some s ∧ s.1 = 2 ∧ s.2.1 = t.2.1 ∧ KW kd wc ∧ gI (L (k + 2)) s.2.2.2.1 = nI kd ∧ B 188 s.2.2.1 = nI wc ∧ nI kd = (if i = 0 then gk else hk) ∧ r = u :: r' ∧ mX3_readChannel I F (nI w) = some (nI i, I') ∧ mX12_aChannel B J gc hc = some (1, B', J') ∧ CR I' B' J' bs u r' ∧ t.2.2 + 1 ≤ u.2.2 ∧ cf I I' ∧ rf (a_u2 B 186 48 (nI (sg n i))) J B' J') := by
  have er : B 186 3 = 2 ↔ t.1 = 256 := cr_r hC 256 (by decide)
  have ec : I 6 6 = 256 ↔ t.1 = 256 := cr_c hC 256 (by omega)
  have hk0 := H.1.1
  have hsr := H.2.2.2.2.2.1
  obtain ⟨e1, e2⟩ := cw_talk hw
  by_cases q : t.1 = 256
  · have hwN : isN t.2.1 := (cr_wf hC).2.1 q
    have hval : I 6 7 = nI (cN t.2.1) := hC.1.2.2.1.1 q
    have hJ6 : J 186 6 = lN (rN t.2.1) := hC.2.1.2.2.2.1 q
    have htl : tl t.1 = 1 := by rw [q]; decide
    obtain ⟨u, r', I1, B1, J1, k1, k2, k3, k4, k5, k6, k7⟩ := jadv hC (by omega)
    rw [htl] at k5
    have hR1 := cf_RS k6 H.1
    have hS1 : SCP b I1 := hs.keep (fun c q1 q2 => cf_b k6 (by omega))
    have hsr1 : SR k h M L I1 B J n lv S a6 a8 a0 := sr_to hsr H.2.2.1 TE.rfl (fun c q1 q2 => cf_b k6 (by omega)) rfl (fun _ => rfl) (fun _ => rfl) (fun _ => rfl) (fun _ _ _ => ⟨rfl, rfl, rfl, rfl, rfl⟩)
    have eT : mX2_takeName I = some (nI (cN t.2.1), I1) := by
      unfold mX2_takeName
      rw [if_pos (ec.mpr q), k2, sb, hval]
    have eC : mX3_readChannel I F (nI w) = (mX5_find I1 (nI (cN t.2.1))).bind fun q5 => (mX5_talkAt I1 q5).bind fun q6 => if q6 = -1 then (mX2_refuse I1 2 (nI t.2.2)).bind fun q7 => mX3_readChannel_48 q7 F (nI w) (nI t.2.2) q5 q6 else mX3_readChannel_48 I1 F (nI w) (nI t.2.2) q5 q6 := by
      unfold mX3_readChannel
      rw [eT, sb, cr_8 hC]
    have fail2 : ∀ q5 q6 : Int32, ∃ x I' B', ((mX2_refuse I1 2 (nI t.2.2)).bind fun q7 => mX3_readChannel_48 q7 F (nI w) (nI t.2.2) q5 q6) = some (x, I') ∧ mX12_bad B 2 (nI t.2.2) = some (0, B') ∧ PL k h b I B J I' B' J := by
      intro q5 q6
      obtain ⟨I2, B2, a1, a2, a3⟩ := jbad2 hC hR1 (cr_9 k4) (cf_FX k6) h (f := 2) (by decide) (nI t.2.2)
      obtain ⟨x, I', b1, b2⟩ := pfo_PL (fail_PL a3 hs hb) (o := mX3_readChannel_48 I2 F (nI w) (nI t.2.2) q5 q6) (fun f p hf => pf_chan hF hf hw _ _ _)
      exact ⟨x, I', B2, by rw [a1, sb]; exact b1, a2, b2⟩
    have e41 : ∀ B2 y, mX12_bad B 2 (nI t.2.2) = some (0, B2) → mX12_aChannel_41 B J gc hc y = some (0, B2, J) := by
      intro B2 y hb2
      unfold mX12_aChannel_41
      rw [cr_4 hC, hb2, sb, if_pos (Or.inl rfl)]
    unfold mX12_aChannel
    rw [if_pos (er.mpr q), hJ6, eC]
    rcases sr_find hsr1 hwN with ⟨i, s, f1, f2, f3, f4, f5⟩ | ⟨f1, f2, f3⟩
    · have hil : i < S.length := (List.getElem?_eq_some_iff.mp f1).1
      obtain ⟨hW, ⟨g1, g2, g3, g4, g5, g6, g7⟩, hS, hD, _⟩ := hsr
      obtain ⟨d1, d2, d3, d4, d5⟩ := hS i s f1
      have hsg : sg n i < 85 := by have := sg_lt g4 hil; omega
      have i128' := in128 (show sg n i < 128 by omega)
      have c128' := cl128 (show sg n i < 128 by omega)
      rw [f4, sb, sr_talk hsr1 f1, sb, f5, sb, if_neg (nIm (by omega)), if_pos i128', congrArg (B 208) c128', (d4 f2).2]
      by_cases z : s.1 = 2
      · obtain ⟨y1, y2, y3⟩ := d5 z
        have hu := tr_u y3
        obtain ⟨kd, wc, kw, ck, cw, _⟩ := tr_kw y3
        obtain ⟨q1, q2⟩ := cw_eq hw kw
        have iu := in28 hu.1
        have cu := cl28 hu.1
        have hKb := rs_K H.1
        have g8 : mX4_at (k + 1 + 1) I1 (nI s.2.2.2.1) = some (nI kd) := by
          have : mX4_at (k + 2) I1 (nI s.2.2.2.1) = some (gI (L (k + 2)) s.2.2.2.1) := rs_g hR1 (by unfold rowA; omega) (by omega)
          rw [ck] at this
          exact this
        have hsort : (if s.1 = 1 then (0 : Int32) else if i = 0 then 1 else 2) = if i = 0 then 1 else 2 := if_neg (by omega)
        have hs0 : ¬ (if i = 0 then (1 : Int32) else 2) = 0 := by
          by_cases e : i = 0
          · rw [if_pos e]; decide
          · rw [if_neg e]; decide
        have iu2 : inb (B 209 (sg n i)) 2800 := by rw [y1]; exact iu
        rw [if_pos z, if_neg (nIm (by omega)), hsort, if_neg hs0, if_pos i128', congrArg (B 209) c128', if_pos iu2, if_pos i128']
        have cB : B 188 (B 209 (sg n i)).toNatClampNeg = nI wc := by rw [y1, cu, cw]
        rw [cB]
        -- the class's and the reference's test
        have tC : mX3_readChannel_48 I1 F (nI w) (nI t.2.2) (nI i) (nI s.2.2.2.1) = if nI kd = (if i = 0 then gk else hk) then some (nI i, I1) else (mX2_refuse I1 3 (nI t.2.2)).bind fun q2 => some (nI i, q2) := by
          unfold mX3_readChannel_48
          rw [hF, g8, sb]
          by_cases e : i = 0
          · rw [if_pos (show nI i = 0 by rw [e]; rfl), if_pos e]
            unfold mX3_readChannel_73
            rw [e1, sb]
          · rw [if_neg (nI_ne0 (by omega) (by omega)), if_neg e]
            unfold mX3_readChannel_73
            rw [e2, sb]
        have tR : (if (if i = 0 then (1 : Int32) else 2) = 1 then mX12_aChannel_81 B J gc hc (nI (sg n i)) (nI wc) gc (nI wc) else mX12_aChannel_81 B J gc hc (nI (sg n i)) (nI wc) hc (nI wc)) = if nI kd = (if i = 0 then gk else hk) then (mX12_look0 (a_u2 B 186 48 (nI (sg n i))) J).bind fun q1 => some (1, q1.1, q1.2) else (mX12_bad B 3 (nI t.2.2)).bind fun q2 => if q2.1 = 0 ∨ q2.1 = 1 then some (q2.1, q2.2, J) else none := by
          by_cases e : i = 0
          · rw [if_pos e, if_pos rfl, if_pos e]
            unfold mX12_aChannel_81
            rw [cr_4 hC]
            by_cases y : nI kd = gk
            · rw [if_pos y, if_pos (q1.mp y)]
            · rw [if_neg y, if_neg (fun x => y (q1.mpr x))]
          · rw [if_neg e, if_neg (by decide), if_neg e]
            unfold mX12_aChannel_81
            rw [cr_4 hC]
            by_cases y : nI kd = hk
            · rw [if_pos y, if_pos (q2.mp y)]
            · rw [if_neg y, if_neg (fun x => y (q2.mpr x))]
        rw [tC, tR]
        by_cases y : nI kd = (if i = 0 then gk else hk)
        · right
          have hC2 : CR I (a_u2 B 186 48 (nI (sg n i))) J bs t r := CR_B hC (fun j _ _ => a_u2_n _ _ (by omega)) (a_u2_r _ _ (by decide)) rfl
          obtain ⟨u2, r2, I2, B2, J2, z1, z2, z3, z4, z5, z6, z7⟩ := jadv hC2 (by omega)
          have eI : I2 = I1 := Option.some.inj (z2.symm.trans k2)
          subst eI
          have eu : u2 = u ∧ r2 = r' := by rw [k1] at z1; cases z1; exact ⟨rfl, rfl⟩
          obtain ⟨rfl, rfl⟩ := eu
          exact ⟨i, s, kd, wc, u2, r2, I2, B2, J2, q, f1, z, f3, kw, ck, cw, y, k1, by rw [if_pos y], by rw [if_pos y, z3, sb], z4, k5, k6, z7⟩
        · left
          obtain ⟨I2, B2, a1, a2, a3⟩ := jbad2 hC hR1 (cr_9 k4) (cf_FX k6) h (f := 3) (by decide) (nI t.2.2)
          exact ⟨nI i, I2, B2, J, by rw [if_neg y, a1, sb], by rw [if_neg y, a2, sb, if_pos (Or.inl rfl)], fail_PL a3 hs hb⟩
      · left
        have z1 : s.1 = 1 := by omega
        obtain ⟨x, I', B', a1, a2, a3⟩ := fail2 (nI i) (-1)
        refine ⟨x, I', B', J, ?_, ?_, a3⟩
        · rw [if_neg z, if_pos rfl]; exact a1
        · rw [if_pos z1, if_pos rfl]; exact e41 B' _ a2
    · left
      obtain ⟨x, I', B', a1, a2, a3⟩ := fail2 (-1) (-1)
      refine ⟨x, I', B', J, ?_, ?_, a3⟩
      · rw [f2, sb, talk_m1 hsr1.1.2.1, sb, if_pos rfl]; exact a1
      · rw [f3, sb, if_pos rfl]; exact e41 B' _ a2
  · left
    obtain ⟨I1, B1, a1, a2, a3, a4⟩ := jbad hC H.1 h (f := 1) (by decide) (nI t.2.2)
    have hp := fail_PL a3 hs hb
    obtain ⟨x, I', b1, b2⟩ := pfo_PL hp (o := mX3_readChannel I F (nI w)) (fun f p hf => by
      unfold mX3_readChannel mX2_takeName
      rw [if_neg (fun z => q (ec.mp z)), cr_8 hC, a1, sb, sb]
      refine pfo_r (pf_find hf _) (fun v => pfo_r (pf_talk hf _) (fun v2 => pfo_if ?_ (pf_chan hF hf hw _ _ _)))
      rw [fm_refuse hf.1, sb]
      exact pf_chan hF hf hw _ _ _)
    refine ⟨x, I', B1, J, b1, ?_, b2⟩
    unfold mX12_aChannel
    rw [if_neg (fun z => q (er.mp z)), cr_4 hC, a2, sb, if_pos (Or.inl rfl)]
end
