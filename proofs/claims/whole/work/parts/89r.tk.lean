/-! A TALK: its CHANNEL is read, then what goes over it (pure) -/
def tkR (I : iT) (F : fT) (x1 x2 q2 q4 q5 q6 : Int32) : Option iT := if x1 = 303 then (mX7_readSum SF I F 0 x2).bind fun q8 => (mX4_put ((F 134 4) + 51) q8.2 q2 q8.1).bind fun q9 => mX3_readTalk_229 q9 F x1 x2 q2 q4 q5 q6 else if x1 = 305 then (mX4_at (((F 134 4) + 1) + 3) I q5).bind fun q10 => (mX3_readSent I q10).bind fun q11 => (mX4_put ((F 134 4) + 51) q11.2 q2 q11.1).bind fun q12 => mX3_readTalk_229 q12 F x1 x2 q2 q4 q5 q6 else if x1 = 307 then (mX3_readPicked I F q2 q5).bind fun q13 => mX3_readTalk_229 q13.2 F x1 x2 q2 q4 q5 q13.1 else if x1 = 316 then (mX5_drop I q4).bind fun q14 => mX3_readTalk_229 q14 F x1 x2 q2 q4 q5 q6 else (mX3_readFreshThing I).bind fun q15 => (mX4_at (((F 134 4) + 1) + 3) q15.2 q5).bind fun q16 => (mX5_add q15.2 q15.1 q16).bind fun q17 => (mX4_put ((F 134 4) + 51) q17.2 q2 q17.1).bind fun q18 => mX3_readTalk_229 q18 F x1 x2 q2 q4 q5 q6
theorem tk_eq (I : iT) (F : fT) (x1 x2 : Int32) : mX3_readTalk I F x1 x2 = (mX0_addNode (F 134 4) I x1).bind fun q2 => (mX2_advance q2.2).bind fun q3 => (mX3_readChannel q3 F x1).bind fun q4 => (mX5_talkAt q4.2 q4.1).bind fun q5 => (mX4_at (((F 134 4) + 1) + 5) q4.2 q5).bind fun q6 => (mX4_put ((F 134 4) + 49) q4.2 q2.1 q4.1).bind fun q7 => tkR q7 F x1 x2 q2.1 q4.1 q5 q6 := rfl
section
variable {α : Type} {k : Nat} {f p : Int32} {b c : Nat} {I : iT} {F : fT}
theorem pfu_mono {o : Option iT} (h : PFu k f p b I o) (hb : b ≤ c) (hc : c ≤ 10000) : PFu k f p c I o := by
  obtain ⟨I', e1, e2, e3⟩ := h
  exact ⟨I', e1, e2.mono hb hc, e3⟩
theorem pfo_mono {o : Option (α × iT)} (h : PFo k f p b I o) (hb : b ≤ c) (hc : c ≤ 10000) : PFo k f p c I o := by
  obtain ⟨x, I', e1, e2, e3⟩ := h
  exact ⟨x, I', e1, e2.mono hb hc, e3⟩
theorem pf_k (hp : PF k f p b I) : k = 12 ∨ k = 73 := hp.1.1.elim fun _ z => z.1
theorem pf_putB (hp : PF k f p b I) {a : Nat} (ha : rowB k a) (x v : Int32) : PFu k f p b I (mX4_put a I x v) := fmu_pfu hp (fm_put hp.1 ha x v)
theorem pf_229 (hp : PF k f p b I) (x1 x2 x3 x4 x5 x6 : Int32) : PFu k f p b I (mX3_readTalk_229 I F x1 x2 x3 x4 x5 x6) := by
  unfold mX3_readTalk_229
  exact pfu_u (pf_setTalk hp _ _) (fun I1 h1 => pfu_ret h1)
theorem pf_sumE (hp : PF k f p b I) (x : Int32) : mX7_readSum SF I F 0 x = some (-1, I) := fm_sum0 hp.1 445 x
theorem pf_fresh (hp : PF k f p b I) : PFo k f p b I (mX3_readFreshThing I) := by
  unfold mX3_readFreshThing
  rw [fm_take hp.1, sb]
  refine pfo_r (pf_find hp _) (fun v => pfo_if (pfo_ret hp _) ?_)
  rw [fm_refuse hp.1, sb]
  exact pfo_ret hp _
theorem pf_sent (hp : PF k f p b I) (x : Int32) : PFo k f p b I (mX3_readSent I x) := by
  have h76 : ∀ x1 x2 x3 x4, PFo k f p b I (mX3_readSent_76 I x1 x2 x3 x4) := fun x1 x2 x3 x4 => by
    unfold mX3_readSent_76
    exact pfo_u (pf_drop hp _) (fun I1 h1 => pfo_ret h1 _)
  have h63 : ∀ x1 x2 x3 x4, PFo k f p b I (mX3_readSent_63 I x1 x2 x3 x4) := fun x1 x2 x3 x4 => by
    unfold mX3_readSent_63
    rw [fm_refuse hp.1, sb]
    exact pfo_if (h76 _ _ _ _) (h76 _ _ _ _)
  have h48 : ∀ x1 x2 x3 x4, PFo k f p b I (mX3_readSent_48 I x1 x2 x3 x4) := fun x1 x2 x3 x4 => by
    unfold mX3_readSent_48
    rw [fm_refuse hp.1, sb]
    exact pfo_if (h63 _ _ _ _) (h63 _ _ _ _)
  unfold mX3_readSent
  rw [fm_take hp.1, sb]
  refine pfo_r (pf_find hp _) (fun v => pfo_r (pf_talk hp _) (fun v2 => ?_))
  rw [fm_refuse hp.1, sb]
  exact pfo_if (h48 _ _ _ _) (h48 _ _ _ _)
theorem pf_47 (hF : F 134 4 = k) (hp : PF k f p b I) (x1 x2 x3 x4 x5 : Int32) : PFo k f p b I (mX3_readPicked_47 I F x1 x2 x3 x4 x5) := by
  have hk := pf_k hp
  unfold mX3_readPicked_47
  rw [hF]
  refine pfo_u (pf_putB hp (by unfold rowB; omega) _ _) (fun I1 h1 => ?_)
  obtain ⟨L, hL⟩ := h1.1.1
  exact pfo_r (bt_any hL _ _) (fun v => pfo_ret h1 _)
theorem pf_picked (hF : F 134 4 = k) (hp : PF k f p b I) (hT : TB k I) (x1 x2 : Int32) : PFo k f p b I (mX3_readPicked I F x1 x2) := by
  obtain ⟨L, hL, hL2⟩ := hT
  unfold mX3_readPicked
  rw [fm_take hp.1, sb, hF]
  refine pfo_r (fb_any hL hL2 _ _) (fun v => ?_)
  rw [fm_refuse hp.1, sb]
  exact pfo_if (pf_47 hF hp _ _ _ _ _) (pf_47 hF hp _ _ _ _ _)
theorem pf_tkR (hF : F 134 4 = k) (hp : PF k f p b I) (hT : TB k I) (hb : b + 1 ≤ 10000) (x1 x2 q2 q4 q5 q6 : Int32) : PFu k f p (b + 1) I (tkR I F x1 x2 q2 q4 q5 q6) := by
  have hk := pf_k hp
  unfold tkR
  rw [hF]
  refine pfu_if ?_ (pfu_if ?_ (pfu_if ?_ (pfu_if ?_ ?_)))
  · refine pfu_mono ?_ (Nat.le_succ b) hb
    rw [pf_sumE hp, sb]
    exact pfu_u (pf_putB hp (by unfold rowB; omega) _ _) (fun I1 h1 => pf_229 h1 _ _ _ _ _ _)
  · refine pfu_mono ?_ (Nat.le_succ b) hb
    refine pfu_r (fm_at hp.1 (a := k + 1 + 3) (by unfold rowA; omega) _) (fun v => pfu_o (pf_sent hp _) (fun x I1 h1 => pfu_u (pf_putB h1 (by unfold rowB; omega) _ _) (fun I2 h2 => pf_229 h2 _ _ _ _ _ _)))
  · refine pfu_mono ?_ (Nat.le_succ b) hb
    exact pfu_o (pf_picked hF hp hT _ _) (fun x I1 h1 => pf_229 h1 _ _ _ _ _ _)
  · refine pfu_mono ?_ (Nat.le_succ b) hb
    exact pfu_u (pf_drop hp _) (fun I1 h1 => pf_229 h1 _ _ _ _ _ _)
  · refine pfu_o (pf_fresh hp) (fun x I1 h1 => pfu_r (fm_at h1.1 (a := k + 1 + 3) (by unfold rowA; omega) _) (fun v => pfu_o (pf_add h1 hb _ _) (fun x2 I2 h2 => pfu_u (pf_putB h2 (by unfold rowB; omega) _ _) (fun I3 h3 => pf_229 h3 _ _ _ _ _ _))))
end
section
variable {k h M n : Nat} {D : List Df} {F : fT} {I B : iT} {J : jT} {L : lT} {bs : List Nat} {t : Tok} {r : List Tok} {md nest wd b : Nat} {S : List Sl} {a6 a8 a0 : List Int32}
theorem tk_ok (hC : CR I B J bs t r) (H : PS k h M n D F I B J L t.2.2 md nest S a6 a8 a0 wd b 0) {w : Nat} {gc hc gk hk : Int32} (hw : CW w gc hc gk hk) (q : t.1 = w) (x2 : Int32) :
    ∃ B2 J2, mX12_look0 B J = some (B2, J2) ∧
    ((∃ I' B3 J3, mX3_readTalk I F (nI w) x2 = some I' ∧ mX12_aChannel B2 J2 gc hc = some (0, B3, J3) ∧ PL k h (b + 1) I B J I' B3 J3) ∨
     (∃ i s kd wc I7 B3 J3 t3 r3 L7, S[i]? = some s ∧ s.1 = 2 ∧ KW kd wc ∧ gI (L (k + 2)) s.2.2.2.1 = nI kd ∧ B3 188 s.2.2.1 = nI wc ∧ nI kd = (if i = 0 then gk else hk) ∧ mX3_readTalk I F (nI w) x2 = tkR I7 F (nI w) x2 (nI (L (k + 47)).length) (nI i) (nI s.2.2.2.1) (gI (L (k + 6)) s.2.2.2.1) ∧ mX12_aChannel B2 J2 gc hc = some (1, B3, J3) ∧ CR I7 B3 J3 bs t3 r3 ∧ PS k h M n D F I7 B3 J3 L7 t3.2.2 md nest S a6 a8 a0 wd b 4 ∧ NG k L L7 (nI w) (nI i) (-1) (-1) ∧ (∀ a, ¬ (k + 47 ≤ a ∧ a ≤ k + 53) → L7 a = L a) ∧ B3 186 48 = nI (sg n i) ∧ sg n i < 85 ∧ t.2.2 + tl w + 1 ≤ t3.2.2 ∧ cQ k I I7 ∧ rP h md nest B J B3 J3)) := by
  have hk0 := H.1.1.1
  have hF := H.2.1.1
  have hbb := H.2.2.2.2.2.2.2.2
  have hw3 : 300 ≤ w ∧ w ≤ 316 := by unfold CW at hw; omega
  have hnod := H.2.2.1
  have hlen : (L (k + 47)).length < 2 ^ 31 := by
    have h1 := H.2.2.2.2.2.1.1
    have h2 := cr_end hC
    omega
  obtain ⟨I1, I2, B2, J2, e1, e2, e3, HO⟩ := th_ok hC H hw q
  refine ⟨B2, J2, e3, ?_⟩
  have eT : mX3_readTalk I F (nI w) x2 = (mX3_readChannel I2 F (nI w)).bind fun q4 => (mX5_talkAt q4.2 q4.1).bind fun q5 => (mX4_at (k + 1 + 5) q4.2 q5).bind fun q6 => (mX4_put (k + 49) q4.2 (nI (L (k + 47)).length) q4.1).bind fun q7 => tkR q7 F (nI w) x2 (nI (L (k + 47)).length) q4.1 q5 q6 := by
    rw [tk_eq, hF, e1, sb, e2, sb]
  rcases HO with ⟨x, I3, B3, J3, c1, c2, c3⟩ | ⟨i, s, kd, wc, I3, B3, J3, t3, r3, d1, d2, d3, d4, d5, d6, d7, d8, d9, d10, d11, d12, d13, d14, d15, d16⟩
  · left
    have fr : ∀ a, k + 2 ≤ a → a ≤ k + 13 → I3 a = I a := by
      intro a q1 q2
      obtain ⟨I1', e1', H1', f1'⟩ := ps_node H (by
        obtain ⟨u0, r0, y1, y2, y3⟩ := tkl_more hC.2.2.1 (by omega)
        have := tkl_end r0 u0 y2
        have htl : 1 ≤ tl w := by
          unfold tl
          rw [if_neg (by omega), if_neg (by omega)]
          have : ∀ x, x < 17 → 1 ≤ (wl.getD x []).length := by decide
          exact this _ (by omega)
        rw [q] at y3
        omega) (nI w)
      have : I1' = I1 := congrArg Prod.snd (Option.some.inj (e1'.symm.trans e1))
      subst this
      rw [rc_fr c1 a (by omega), adv_fr e2 a (by omega), f1' a (by omega)]
    obtain ⟨I', a1, a2⟩ := pfu_PL c3 (c' := b + 1) (o := (mX5_talkAt I3 x).bind fun q5 => (mX4_at (k + 1 + 5) I3 q5).bind fun q6 => (mX4_put (k + 49) I3 (nI (L (k + 47)).length) x).bind fun q7 => tkR q7 F (nI w) x2 (nI (L (k + 47)).length) x q5 q6) (fun f p hf => by
      refine pfu_r (pf_talk hf _) (fun v => pfu_r (fm_at hf.1 (a := k + 1 + 5) (by unfold rowA; omega) _) (fun v2 => ?_))
      obtain ⟨I4, p1, p2, p3⟩ := pf_putB hf (a := k + 49) (by unfold rowB; omega) (nI (L (k + 47)).length) x
      obtain ⟨L3, hL3⟩ := hf.1.1
      obtain ⟨I4', g1, g2, g3⟩ := rs_put hL3 (a := k + 49) (by unfold rowA; omega) (nI (L (k + 47)).length) x
      have : I4' = I4 := Option.some.inj (g1.symm.trans p1)
      subst this
      have hT4 : TB k I4' := tb_keep H.1.1 H.1.2.2.1 p2.1 (fun a q1 q2 => by rw [g3 a (by omega) (by omega), fr a q1 q2])
      obtain ⟨I5, z1, z2, z3⟩ := pf_tkR hF p2 hT4 (by omega) (nI w) x2 (nI (L (k + 47)).length) x v v2
      exact ⟨I5, by rw [p1, sb]; exact z1, z2, p3.trans z3⟩)
    exact ⟨I', B3, J3, by rw [eT, c1, sb]; exact a1, c2, a2⟩
  · right
    have hsr := d10.1.2.2.2.2.2.1
    have hil : i < S.length := (List.getElem?_eq_some_iff.mp d1).1
    have hsl := hsr.2.1.2.2.2.2.2.1
    have hK := rs_K H.1.1
    have htr := (hsr.2.2.1 i s d1).2.2.2.2 d2
    have htl := (tr_u htr.2.2).2.2
    rw [ad4_n _ (by omega)] at htl
    have e6 : mX4_at (k + 1 + 5) I3 (nI s.2.2.2.1) = some (gI (L (k + 6)) s.2.2.2.1) := by
      have := rs_g d10.1.1 (a := k + 6) (by unfold rowA; omega) (j := s.2.2.2.1) (by omega)
      rw [ad4_n _ (by omega)] at this
      exact this
    obtain ⟨I7, p1, p2, p3⟩ := ps_put d10 (a := k + 49) (by omega) (j := (L (k + 47)).length) hlen (nI i)
    have hC7 : CR I7 B3 J3 bs t3 r3 := CR_I d9 (p3 6 (by omega)) (p3 9 (by omega)) (p3 10 (by omega)) (p3 11 (by omega))
    have hng := ng_49 hnod (ng_ad4 (k := k) (L := L) (nI w)) (nI i)
    refine ⟨i, s, kd, wc, I7, B3, J3, t3, r3, _, d1, d2, d3, d4, by rw [d15 _ _ (by omega) (by omega)]; exact d5, d6, ?_, d8, hC7, p2, hng, fun a w1 => by rw [upL_n _ _ (by omega), ad4_n _ (by omega)], d11, by have := sg_lt hsr.2.1.2.2.2.1 hil; omega, d12, d13.trans (fun c w1 w2 w3 => p3 c (by omega)), d14⟩
    rw [eT, d7, sb, sr_talk hsr d1, sb, if_pos d2, e6, sb, p1, sb]
end
