/-! A TYPE IS READ, in both (pure): the whole -/
theorem pair_id {α β : Type} (z : Option (α × β)) : (z.bind fun q => some (q.1, q.2)) = z := by
  cases z with
  | none => rfl
  | some v => rfl
section
variable {k h M : Nat} {W : List Ent} {F : fT} {I B : iT} {J : jT} {L : lT} {bs : List Nat} {t : Tok} {r : List Tok} {P c md op : Nat}
/-- ! and ? -/
theorem rt_talk1 (R R2 : sc_9readChoiceT) (R' : sc_12choiceT) (hR2 : R.2.1 = bX9_readTalk R2) (hch : ∀ (I B : iT) (J : jT) (L : lT) (t : Tok) (r : List Tok) (c md : Nat), CR I B J bs t r → TS k h M W F I B J L t.2.2 c md (op + 1) → TO k h M W F I B J L bs t.2.2 c md (op + 1) (R2.2.2 I F (nI (op + 1))) (R'.2 B J)) (hC : CR I B J bs t r) (H : TS k h M W F I B J L t.2.2 c md op) {kd w : Nat} (hkw : (kd = 33 ∧ w = 2) ∨ (kd = 63 ∧ w = 3)) (q : t.1 = kd) : TO k h M W F I B J L bs t.2.2 c md op (bX9_readType R I F (nI op)) (bX12_readType R' B J) := by
  have hkw6 : kw6 kd w := by unfold kw6; omega
  have hk := H.1.1
  rcases rt_head R R' hC H hkw6 q with ⟨x, I', B', J', e1, e2, e3⟩ | ⟨ho, u, r', I2, B2, J2, hC2, H2, hP2, cT2, rT2, e1, e2⟩
  · exact ⟨x, I', 0, B', J', e1, e2, Or.inl ⟨rfl, e3⟩⟩
  have eC : bX9_readType R I F (nI op) = (R2.2.2 I2 F (nI (op + 1))).bind fun q1 => (mX2_failed q1.2).bind fun q2 => if q2 = 0 then (mX10_make (k + 1) q1.2 (nI kd) (-1) q1.1).bind fun q3 => some (q3.1, q3.2) else some (-1, q1.2) := by
    rw [e1, isCh_ok (by omega), if_neg (by omega), sb, if_pos rfl, hR2]
    unfold bX9_readTalk
    rw [if_neg (show ¬ nI kd = 62 by rcases hkw with ⟨z, _⟩ | ⟨z, _⟩ <;> subst z <;> decide), if_neg (show ¬ nI kd = 60 by rcases hkw with ⟨z, _⟩ | ⟨z, _⟩ <;> subst z <;> decide)]
    unfold mX9_readTalk_29
    rw [H.2.1]
    exact pair_id _
  have eR : bX12_readType R' B J = (R'.2 B2 J2).bind fun q7 => if q7.1 = 0 then some (0, q7.2.1, q7.2.2) else (mX12_node q7.2.1 q7.2.2 (nI w) (q7.2.1 186 36) (-1) 0).bind fun q8 => mX12_readType_328 R' (a_u2 q8.2.1 186 36 q8.1) q8.2.2 (nI w) := by
    rw [e2]
    rcases hkw with ⟨_, z⟩ | ⟨_, z⟩ <;> subst z <;> rfl
  rw [eC, eR]
  obtain ⟨x, I3, v, B3, J3, f1, f2, HO⟩ := hch I2 B2 J2 L u r' (c + 1) md hC2 H2
  rcases HO with ⟨hv, hF⟩ | ⟨hv, u1, t1, p1, hx, L3, t3, r3, md3, g1, g2, g3, g4, g5, g6, g7, g8, g9, g10, g11, g12⟩
  · subst hv
    obtain ⟨x', I', a1, a2⟩ := fmo_FAIL (FAIL.pre (cT_FX cT2) (rT_RX rT2) hF) (o := (mX2_failed I3).bind fun q2 => if q2 = 0 then (mX10_make (k + 1) I3 (nI kd) (-1) x).bind fun q3 => some (q3.1, q3.2) else some (-1, I3)) (fun f p hf => by
      rw [fm_failed hf, sb, if_neg i10]
      exact fmo_ret hf _)
    exact ⟨x', I', 0, B3, J3, by rw [f1, sb]; exact a1, by rw [f2, sb, if_pos rfl], Or.inl ⟨rfl, a2⟩⟩
  · subst hv
    subst hx
    have b17 := H.2.2.2.2.2.2.2.1
    have b19 := H.2.2.2.2.2.2.2.2.2
    have hd16 := H.2.2.2.2.2.2.1.2.2.2
    obtain ⟨tt, I4, L4, B4, J4, m1, m2, m3, m4, m5, m6, m7, m8, m9, m10, m11, m12, m13, m14, m15, m16, m17, m18⟩ := rt_make (R' := R') hkw6 (by rcases hkw with ⟨z, _⟩ | ⟨z, _⟩ <;> subst z <;> unfold ch <;> decide) g1 g2 (x2 := -1) (x3 := t1) (Or.inl rfl) (tr_u g4).2.2 (nI u1) (-1) (by omega) (by omega) (by rw [g3.2 143 (by omega)]; exact hd16)
    refine ⟨nI tt, I4, 1, B4, J4, ?_, ?_, Or.inr ⟨rfl, 1400 * h + md3, tt, 1 + p1, rfl, L4, t3, r3, md3 + 1, m3, ?_, g3.trans m5, ?_, m16, by omega, by omega, by rw [m8]; omega, by omega, by omega, cT2.trans (g11.trans m17), ?_⟩⟩
    · rw [f1, sb, cr_failed g1, sb, if_pos rfl, m1, sb]
    · rw [← g5] at m2
      rw [f2, sb, if_neg i10]; exact m2
    · rw [← Nat.add_assoc]; exact m4
    · rw [Nat.add_comm 1 p1]
      refine ⟨by have := cr_end g1; have := g2.2.2.2.2.2.2.2.2.2; have := H.2.2.2.2.1.1; omega, Or.inr ⟨by omega, by omega⟩, m6, m15, Or.inr (Or.inl ⟨kd, w, u1, t1, p1, hkw, m9, m12, m13, m14, m10, m11, by omega, ?_⟩)⟩
      refine tr_to g2.2.2.1 m5.1 (fun v hv => ?_) (fun v hv => ?_) _ _ _ _ _ (Nat.le_refl _) g4
      · have : v < 1400 * h + md3 := by
          have := g2.2.2.2.2.1.2.2.2.2
          rcases hv with hv | hv <;> omega
        exact ⟨m18.1 _ _ (by omega) (by omega), m18.1 _ _ (by omega) (by omega), m18.1 _ _ (by omega) (by omega), m18.1 _ _ (by omega) (by omega), m18.2 _ _ (by omega) (by omega)⟩
      · rcases hv with hv | hv
        · exact Or.inl hv
        · exact Or.inr ⟨hv.1, by omega⟩
    · exact (rT2.trans g12 (Nat.le_refl _)).trans m18 g6
/-- > and < -/
theorem rt_talk2 (R R2 : sc_9readChoiceT) (R' : sc_12choiceT) (hR2 : R.2.1 = bX9_readTalk R2) (hfm : ∀ f p I x, FM k f p I → FMo k f p I (R2.2.2 I F x)) (hch : ∀ (I B : iT) (J : jT) (L : lT) (t : Tok) (r : List Tok) (c md : Nat), CR I B J bs t r → TS k h M W F I B J L t.2.2 c md (op + 1) → TO k h M W F I B J L bs t.2.2 c md (op + 1) (R2.2.2 I F (nI (op + 1))) (R'.2 B J)) (hC : CR I B J bs t r) (H : TS k h M W F I B J L t.2.2 c md op) {kd w : Nat} (hkw : (kd = 62 ∧ w = 4) ∨ (kd = 60 ∧ w = 5)) (q : t.1 = kd) : TO k h M W F I B J L bs t.2.2 c md op (bX9_readType R I F (nI op)) (bX12_readType R' B J) := by
  have hkw6 : kw6 kd w := by unfold kw6; omega
  have hk := H.1.1
  rcases rt_head R R' hC H hkw6 q with ⟨x, I', B', J', e1, e2, e3⟩ | ⟨ho, u, r', I2, B2, J2, hC2, H2, hP2, cT2, rT2, e1, e2⟩
  · exact ⟨x, I', 0, B', J', e1, e2, Or.inl ⟨rfl, e3⟩⟩
  have eC : bX9_readType R I F (nI op) = (R2.2.2 I2 F (nI (op + 1))).bind fun q4 => (mX2_want q4.2 46).bind fun q5 => (R2.2.2 q5 F (nI (op + 1))).bind fun q1 => (mX2_failed q1.2).bind fun q2 => if q2 = 0 then (mX10_make (k + 1) q1.2 (nI kd) q4.1 q1.1).bind fun q3 => some (q3.1, q3.2) else some (-1, q1.2) := by
    have e14 : bX9_readTalk R2 I2 F (nI kd) (nI (op + 1)) = mX9_readTalk_14 R2 I2 F (nI kd) (nI (op + 1)) (-1) := by
      unfold bX9_readTalk
      rcases hkw with ⟨z, _⟩ | ⟨z, _⟩ <;> subst z <;> rfl
    rw [e1, isCh_ok (by omega), if_neg (by omega), sb, if_pos rfl, hR2, e14]
    rw [pair_id]
    unfold mX9_readTalk_14 mX9_readTalk_29
    rw [H.2.1]
  have eR : bX12_readType R' B J = (R'.2 B2 J2).bind fun q7 => if q7.1 = 0 then some (0, q7.2.1, q7.2.2) else (mX12_need q7.2.1 q7.2.2 46).bind fun q2 => if q2.1 = 0 then some (0, q2.2.1, q2.2.2) else (R'.2 q2.2.1 q2.2.2).bind fun q3 => if q3.1 = 0 then some (0, q3.2.1, q3.2.2) else (mX12_node q3.2.1 q3.2.2 (nI w) (q7.2.1 186 36) (q3.2.1 186 36) 0).bind fun q4 => mX12_readType_328 R' (a_u2 q4.2.1 186 36 q4.1) q4.2.2 (nI w) := by
    rw [e2]
    rcases hkw with ⟨_, z⟩ | ⟨_, z⟩ <;> subst z <;> rfl
  rw [eC, eR]
  obtain ⟨x, I3, v, B3, J3, f1, f2, HO⟩ := hch I2 B2 J2 L u r' (c + 1) md hC2 H2
  have b17 := H.2.2.2.2.2.2.2.1
  have b19 := H.2.2.2.2.2.2.2.2.2
  have hd16 := H.2.2.2.2.2.2.1.2.2.2
  rcases HO with ⟨hv, hF⟩ | ⟨hv, u1, t1, p1, hx, L3, t3, r3, md3, g1, g2, g3, g4, g5, g6, g7, g8, g9, g10, g11, g12⟩
  · subst hv
    obtain ⟨x', I', a1, a2⟩ := fmo_FAIL (FAIL.pre (cT_FX cT2) (rT_RX rT2) hF) (o := (mX2_want I3 46).bind fun q5 => (R2.2.2 q5 F (nI (op + 1))).bind fun q1 => (mX2_failed q1.2).bind fun q2 => if q2 = 0 then (mX10_make (k + 1) q1.2 (nI kd) x q1.1).bind fun q3 => some (q3.1, q3.2) else some (-1, q1.2)) (fun f p hf => by
      rw [fm_want hf (by decide), sb]
      refine fmo_o (hfm f p I3 _ hf) (fun v I4 h4 => ?_)
      rw [fm_failed h4, sb, if_neg i10]
      exact fmo_ret h4 _)
    exact ⟨x', I', 0, B3, J3, by rw [f1, sb]; exact a1, by rw [f2, sb, if_pos rfl], Or.inl ⟨rfl, a2⟩⟩
  · subst hv
    subst hx
    have cT3 := cT2.trans g11
    have rT3 := rT2.trans g12 (Nat.le_refl _)
    rcases jneed g1 g2.1 h 46 (by decide) with ⟨q4, u4, r4, I4, B4, J4, k1, k2, k3, k4, k5, k6, k7⟩ | ⟨q4, I4, B4, k2, k3, k4⟩
    · have k2' : mX2_want I3 46 = some I4 := k2
      have k3' : mX12_need B3 J3 46 = some (1, B4, J4) := k3
      have htl : tl t3.1 = 1 := by rw [q4]; decide
      rw [htl] at k5
      have H4 := ts_cur g2 k6 k7 (P' := u4.2.2) (by omega)
      obtain ⟨x5, I5, v5, B5, J5, y1, y2, HO5⟩ := hch I4 B4 J4 L3 u4 r4 (c + 1 + p1) md3 k4 H4
      rcases HO5 with ⟨hv, hF⟩ | ⟨hv, u2, t2, p2, hx, L5, t5, r5, md5, z1, z2, z3, z4, z5, z6, z7, z8, z9, z10, z11, z12⟩
      · subst hv
        obtain ⟨x', I', a1, a2⟩ := fmo_FAIL (FAIL.pre ((cT_FX cT3).trans (cf_FX k6)) ((rT_RX rT3).trans (rf_RX k7)) hF) (o := (mX2_failed I5).bind fun q2 => if q2 = 0 then (mX10_make (k + 1) I5 (nI kd) (nI t1) x5).bind fun q3 => some (q3.1, q3.2) else some (-1, I5)) (fun f p hf => by
          rw [fm_failed hf, sb, if_neg i10]
          exact fmo_ret hf _)
        exact ⟨x', I', 0, B5, J5, by rw [f1, sb, k2', sb, y1, sb]; exact a1, by rw [f2, sb, if_neg i10, k3', sb, if_neg i10, y2, sb, if_pos rfl], Or.inl ⟨rfl, a2⟩⟩
      · subst hv
        subst hx
        have ht1 : t1 < (L5 (k + 2)).length := by
          have w1 := (tr_u g4).2.2
          have w2 := ext_l z3.1 (a := k + 2) (by omega) (by omega)
          omega
        obtain ⟨tt, I6, L6, B6, J6, m1, m2, m3, m4, m5, m6, m7, m8, m9, m10, m11, m12, m13, m14, m15, m16, m17, m18⟩ := rt_make (R' := R') hkw6 (by rcases hkw with ⟨z, _⟩ | ⟨z, _⟩ <;> subst z <;> unfold ch <;> decide) z1 z2 (x2 := nI t1) (x3 := t2) (Or.inr ⟨t1, ht1, rfl⟩) (tr_u z4).2.2 (nI u1) (nI u2) (by omega) (by omega) (by rw [z3.2 143 (by omega), g3.2 143 (by omega)]; exact hd16)
        have hMd : M ≤ 1400 * h + md := H.2.2.2.2.1.2.2.2.2
        have rT5 : rT h md3 B3 J3 B5 J5 := (rf_rT k7).trans z12 (Nat.le_refl _)
        refine ⟨nI tt, I6, 1, B6, J6, ?_, ?_, Or.inr ⟨rfl, 1400 * h + md5, tt, 1 + p1 + p2, rfl, L6, t5, r5, md5 + 1, m3, ?_, (g3.trans z3).trans m5, ?_, m16, by omega, by omega, by rw [m8]; omega, by omega, by omega, cT3.trans ((cf_cT k6).trans (z11.trans m17)), ?_⟩⟩
        · rw [f1, sb, k2', sb, y1, sb, cr_failed z1, sb, if_pos rfl, m1, sb]
        · rw [← g5, ← z5] at m2
          rw [f2, sb, if_neg i10, k3', sb, if_neg i10, y2, sb, if_neg i10]; exact m2
        · rw [show c + (1 + p1 + p2) = c + 1 + p1 + p2 by omega]; exact m4
        · rw [show 1 + p1 + p2 = (p1 + p2) + 1 by omega]
          refine ⟨by have := cr_end z1; have := z2.2.2.2.2.2.2.2.2.2; have := H.2.2.2.2.1.1; omega, Or.inr ⟨by omega, by omega⟩, m6, m15, Or.inr (Or.inr (Or.inl ⟨kd, w, u1, t1, p1, u2, t2, p2, hkw, m9, m12, m13, m14, m10, m11, by omega, ?_, ?_⟩))⟩
          · have s1 := tr_to g2.2.2.1 z3.1 (B' := B5) (J' := J5) (Q' := fun v => (1400 * h ≤ v ∧ v < M) ∨ (1400 * h + md ≤ v ∧ v < 1400 * h + md3)) (fun v hv => by
              have : v < 1400 * h + md3 := by rcases hv with hv | hv <;> omega
              exact ⟨rT5.1 _ _ (by omega) (by omega), rT5.1 _ _ (by omega) (by omega), rT5.1 _ _ (by omega) (by omega), rT5.1 _ _ (by omega) (by omega), rT5.2 _ _ (by omega) (by omega)⟩) (fun v hv => hv) _ _ _ _ _ (Nat.le_refl _) g4
            refine tr_to z2.2.2.1 m5.1 (fun v hv => ?_) (fun v hv => ?_) _ _ _ _ _ (by omega) s1
            · have : v < 1400 * h + md5 := by rcases hv with hv | hv <;> omega
              exact ⟨m18.1 _ _ (by omega) (by omega), m18.1 _ _ (by omega) (by omega), m18.1 _ _ (by omega) (by omega), m18.1 _ _ (by omega) (by omega), m18.2 _ _ (by omega) (by omega)⟩
            · rcases hv with hv | hv
              · exact Or.inl hv
              · exact Or.inr ⟨hv.1, by omega⟩
          · refine tr_to z2.2.2.1 m5.1 (fun v hv => ?_) (fun v hv => ?_) _ _ _ _ _ (by omega) z4
            · have : v < 1400 * h + md5 := by rcases hv with hv | hv <;> omega
              exact ⟨m18.1 _ _ (by omega) (by omega), m18.1 _ _ (by omega) (by omega), m18.1 _ _ (by omega) (by omega), m18.1 _ _ (by omega) (by omega), m18.2 _ _ (by omega) (by omega)⟩
            · rcases hv with hv | hv
              · exact Or.inl hv
              · exact Or.inr ⟨by omega, by omega⟩
        · exact (rT3.trans rT5 g6).trans m18 (by omega)
    · have k2' : mX2_want I3 46 = some I4 := k2
      have k3' : mX12_need B3 J3 46 = some (0, B4, J3) := k3
      obtain ⟨x', I', a1, a2⟩ := fmo_FAIL (FAIL.pre (cT_FX cT3) (rT_RX rT3) k4) (o := (R2.2.2 I4 F (nI (op + 1))).bind fun q1 => (mX2_failed q1.2).bind fun q2 => if q2 = 0 then (mX10_make (k + 1) q1.2 (nI kd) (nI t1) q1.1).bind fun q3 => some (q3.1, q3.2) else some (-1, q1.2)) (fun f p hf => by
        refine fmo_o (hfm f p I4 _ hf) (fun v I5 h5 => ?_)
        rw [fm_failed h5, sb, if_neg i10]
        exact fmo_ret h5 _)
      exact ⟨x', I', 0, B4, J3, by rw [f1, sb, k2', sb]; exact a1, by rw [f2, sb, if_neg i10, k3', sb, if_pos rfl], Or.inl ⟨rfl, a2⟩⟩
/-- + and & -/
theorem rt_choice (R R2 : sc_9readChoiceT) (R' R2' : sc_12choiceT) (hR2 : R.1 = bX9_readChoice R2) (hR2' : R'.1 = bX12_choice R2') (hfm : ∀ f p I x, FM k f p I → FMo k f p I (R2.2.2 I F x)) (hch : ∀ (I B : iT) (J : jT) (L : lT) (t : Tok) (r : List Tok) (c md : Nat), CR I B J bs t r → TS k h M W F I B J L t.2.2 c md (op + 1) → TO k h M W F I B J L bs t.2.2 c md (op + 1) (R2.2.2 I F (nI (op + 1))) (R2'.2 B J)) (hC : CR I B J bs t r) (H : TS k h M W F I B J L t.2.2 c md op) {kd w : Nat} (hkw : (kd = 43 ∧ w = 6) ∨ (kd = 38 ∧ w = 7)) (q : t.1 = kd) : TO k h M W F I B J L bs t.2.2 c md op (bX9_readType R I F (nI op)) (bX12_readType R' B J) := by
  have hkw6 : kw6 kd w := by unfold kw6; omega
  have hk := H.1.1
  rcases rt_head R R' hC H hkw6 q with ⟨x, I', B', J', e1, e2, e3⟩ | ⟨ho, u, r', I2, B2, J2, hC2, H2, hP2, cT2, rT2, e1, e2⟩
  · exact ⟨x, I', 0, B', J', e1, e2, Or.inl ⟨rfl, e3⟩⟩
  have hPu := cr_end hC2
  have eC : bX9_readType R I F (nI op) = ((mX2_want I2 123).bind fun q14 => mX9_readChoice_20 R2 LF q14 F (nI kd) (nI (op + 1)) (nI (L 143).length) 0).bind fun q6 => some (q6.1, q6.2) := by
    rw [e1, isCh_ok (by omega), if_pos (by omega), sb, if_neg i10, hR2]
    unfold bX9_readChoice
    rw [rs_size H2.1 (by unfold rowA; omega), sb]
  have eR : bX12_readType R' B J = (bX12_choice R2' B2 J2 (nI w)).bind fun q1 => if q1.1 = 0 then some (0, q1.2.1, q1.2.2) else mX12_readType_328 R' q1.2.1 q1.2.2 (nI w) := by
    rw [e2, ← hR2']
    rcases hkw with ⟨_, z⟩ | ⟨_, z⟩ <;> subst z <;> rfl
  rw [eC, eR]
  unfold bX12_choice
  have hpair : ∀ (z : Option (Int32 × iT)), (z.bind fun q6 => some (q6.1, q6.2)) = z := by
    intro z
    cases z with
    | none => rfl
    | some v => rfl
  rw [hpair]
  obtain ⟨h1, h2, h3, h4, ⟨h5, h6, h7, h8, h9⟩, ⟨h10, h11, h12⟩, ⟨h13, h14, h15, h16⟩, h17, h18, h19⟩ := H
  rcases jneed hC2 H2.1 h 123 (by decide) with ⟨q4, u4, r4, I4, B4, J4, k1, k2, k3, k4, k5, k6, k7⟩ | ⟨q4, I4, B4, k2, k3, k4⟩
  · have k2' : mX2_want I2 123 = some I4 := k2
    have k3' : mX12_need B2 J2 123 = some (1, B4, J4) := k3
    have htl : tl u.1 = 1 := by rw [q4]; decide
    rw [htl] at k5
    have hP4 := cr_end k4
    have H4 := ts_cur H2 k6 k7 (P' := u4.2.2 - 1) (by omega)
    obtain ⟨B5, J5, n1, n2, n3, n4, n5, n6, n7, n8, n9⟩ := ts_node H4 (by omega) (nI w) (-1) (-1) 0
    have H5 := n2 u4.2.2 (by omega)
    have hC5 : CR I4 B5 J5 bs u4 r4 := CR_B k4 (fun i _ _ => n8 _ _ (by omega) (by omega)) (funext fun i => n8 _ _ (by omega) (by omega)) (n9 _ _ (by omega))
    have HCI : CI k h M W F I4 B5 J5 L (L 143) (L 145) u4.2.2 md (c + 1) (md + 1) op [] w (L (k + 2)).length (L (k + 10)).length md t.2.2 := by
      refine ⟨H5, ⟨(List.append_nil _).symm, (List.append_nil _).symm, h15, h16⟩, ⟨n4, List.Pairwise.nil, List.nodup_nil, Nat.zero_le _⟩, ⟨by omega, h9, n3, n5, n6⟩, fun e he => (by cases he), by omega, ?_, by omega, h17, h18, h19⟩
      show 2 * (L (k + 10)).length + 2 * 0 + t.2.2 ≤ 2 * (L (k + 10)).length + u4.2.2
      omega
    have hLF : LF = 99999 + 1 := rfl
    have hcl := cl_ok (cc := c + 1) (mc := md) (pn := L 143) (pt := L 145) R2 R2' hkw (by omega) hfm hch 6 I4 B5 J5 L [] u4 r4 (md + 1) LF 99999 rfl hC5 HCI (by unfold LF; omega) (by omega)
    rw [k2', sb, k3', sb, if_neg i10, n1, sb]
    have e22 : mX12_choice_22 R2' LF B5 J5 (nI w) (nI (1400 * h + md)) 0 = mX12_choice_30 R2' (mX12_choice_22 R2' 99999) B5 J5 (nI w) (nI (1400 * h + md)) 0 := by
      rw [hLF, mX12_choice_22, if_pos (by decide)]
    obtain ⟨x, I', v, B', J', y1, y2, HO⟩ := hcl
    have y1' : mX9_readChoice_20 R2 LF I4 F (nI kd) (nI (op + 1)) (nI (L 143).length) 0 = some (x, I') := y1
    have y2' : mX12_choice_22 R2' LF B5 J5 (nI w) (nI (1400 * h + md)) 0 = some (v, B', J') := by rw [e22]; exact y2
    have rT5 : rT h md B J B5 J5 := (rT2.trans (rf_rT k7) (Nat.le_refl _)).trans n7 (Nat.le_refl _)
    have cT4 : cT k I I4 := cT2.trans (cf_cT k6)
    rcases HO with ⟨hv, hF⟩ | ⟨hv, tt, p0, L', t', r'', md', g1, g2, g3, g4, g5, g6, g7, g8, g9, g10, g11, g12, g13, g14, g15, g16⟩
    · subst hv
      refine ⟨x, I', 0, B', J', y1', ?_, Or.inl ⟨rfl, FAIL.pre (cT_FX cT4) (rT_RX rT5) hF⟩⟩
      show ((mX12_choice_22 R2' LF B5 J5 (nI w) (nI (1400 * h + md)) 0).bind _) = _
      rw [y2', sb, if_pos rfl]
    · subst hv
      subst g1
      have e35 : B' 186 35 - 1 = nI op := by rw [g3.2.2.2.2.2.2.1.1, nI_pred]
      have hEX : EXT k L L' := by
        refine ⟨g4, fun a z => ?_⟩
        by_cases z3 : a = 143
        · subst z3; exact g6
        by_cases z5 : a = 145
        · subst z5; exact g7
        exact g5 a z z3 z5
      have r6 : rT h md B' J' (a_u2 B' 186 35 (nI op)) J' := ⟨fun b i q1 q2 => a_u2_n _ _ (by omega), fun _ _ _ _ => rfl⟩
      refine ⟨nI tt, I', 1, a_u2 B' 186 35 (nI op), J', y1', ?_, Or.inr ⟨rfl, 1400 * h + md, tt, 1 + p0, rfl, L', t', r'', md', CR_B g2 (fun i _ _ => a_u2_n _ _ (by omega)) (a_u2_r _ _ (by decide)) rfl, ?_, hEX, ?_, ?_, by omega, g11, g12, g13, by omega, cT4.trans g15, (rT5.trans g16 (Nat.le_refl _)).trans r6 (Nat.le_refl _)⟩⟩
      · show ((mX12_choice_22 R2' LF B5 J5 (nI w) (nI (1400 * h + md)) 0).bind _) = _
        rw [y2', sb, if_neg i10]
        unfold mX12_readType_328
        show some (1, a_u2 B' 186 35 (B' 186 35 - 1), J') = _
        rw [e35]
      · rw [← Nat.add_assoc]
        exact ts_op g3 (by omega) (by rw [g6]; exact h16)
      · exact tr_to g3.2.2.1 TE.rfl (fun v _ => ⟨a_u2_n _ _ (by omega), a_u2_n _ _ (by omega), a_u2_n _ _ (by omega), a_u2_n _ _ (by omega), rfl⟩) (fun v hv => hv) _ _ _ _ _ (Nat.le_refl _) g8
      · rw [a_u2_n _ _ (by decide)]; exact g9
  · have k2' : mX2_want I2 123 = some I4 := k2
    have k3' : mX12_need B2 J2 123 = some (0, B4, J2) := k3
    have hLF : LF = 99999 + 1 := rfl
    obtain ⟨x', I', a1, a2⟩ := fmo_FAIL (FAIL.pre (cT_FX cT2) (rT_RX rT2) k4) (o := mX9_readChoice_20 R2 LF I4 F (nI kd) (nI (op + 1)) (nI (L 143).length) 0) (fun f p hf => by
      rw [hLF]
      exact fm_20 R2 F hf 99999 _ _ _ _)
    exact ⟨x', I', 0, B4, J2, by rw [k2', sb]; exact a1, by rw [k3', sb, if_pos rfl, sb, if_pos rfl], Or.inl ⟨rfl, a2⟩⟩
/-- class and reference read every T alike -/
theorem rt_ok : ∀ (d op : Nat), op + d = 12 → ∀ (I B : iT) (J : jT) (L : lT) (t : Tok) (r : List Tok) (c md n1 n2 : Nat), 2 * d + 1 ≤ n1 → 2 * d + 1 ≤ n2 → CR I B J bs t r → TS k h M W F I B J L t.2.2 c md op → TO k h M W F I B J L bs t.2.2 c md op (mX9_readType n1 I F (nI op)) (mX12_readType n2 B J) := by
  intro d
  induction d with
  | zero =>
    intro op ho I B J L t r c md n1 n2 hn1 hn2 hC H
    obtain ⟨n1, rfl⟩ : ∃ x, n1 = x + 1 := ⟨n1 - 1, by omega⟩
    obtain ⟨n2, rfl⟩ : ∃ x, n2 = x + 1 := ⟨n2 - 1, by omega⟩
    show TO k h M W F I B J L bs t.2.2 c md op (bX9_readType (sc_9readChoice n1) I F (nI op)) (bX12_readType (sc_12choice n2) B J)
    by_cases q1 : t.1 = 302
    · exact rt_end _ _ hC H q1
    by_cases q2 : t.1 = 256
    · exact rt_name _ _ hC H q2
    by_cases q3 : t.1 = 33 ∨ t.1 = 63 ∨ t.1 = 62 ∨ t.1 = 60 ∨ t.1 = 43 ∨ t.1 = 38
    · obtain ⟨kd, w, hkw, hq⟩ : ∃ kd w, kw6 kd w ∧ t.1 = kd := by
        unfold kw6
        rcases q3 with q | q | q | q | q | q
        · exact ⟨33, 2, by omega, q⟩
        · exact ⟨63, 3, by omega, q⟩
        · exact ⟨62, 4, by omega, q⟩
        · exact ⟨60, 5, by omega, q⟩
        · exact ⟨43, 6, by omega, q⟩
        · exact ⟨38, 7, by omega, q⟩
      rcases rt_head (sc_9readChoice n1) (sc_12choice n2) hC H hkw hq with ⟨x, I', B', J', e1, e2, e3⟩ | ⟨hlt, _⟩
      · exact ⟨x, I', 0, B', J', e1, e2, Or.inl ⟨rfl, e3⟩⟩
      · omega
    · exact rt_bad _ _ hC H.1 q1 q2 q3
  | succ d ih =>
    intro op ho I B J L t r c md n1 n2 hn1 hn2 hC H
    obtain ⟨n1, rfl⟩ : ∃ x, n1 = x + 1 + 1 + 1 := ⟨n1 - 3, by omega⟩
    obtain ⟨n2, rfl⟩ : ∃ x, n2 = x + 1 + 1 + 1 := ⟨n2 - 3, by omega⟩
    show TO k h M W F I B J L bs t.2.2 c md op (bX9_readType (sc_9readChoice (n1 + 1 + 1)) I F (nI op)) (bX12_readType (sc_12choice (n2 + 1 + 1)) B J)
    have hfm : ∀ f p I x, FM k f p I → FMo k f p I ((sc_9readChoice (n1 + 1)).2.2 I F x) := fun f p I x hf => fm_type F n1 hf x
    by_cases q1 : t.1 = 302
    · exact rt_end _ _ hC H q1
    by_cases q2 : t.1 = 256
    · exact rt_name _ _ hC H q2
    by_cases q3 : t.1 = 33 ∨ t.1 = 63 ∨ t.1 = 62 ∨ t.1 = 60 ∨ t.1 = 43 ∨ t.1 = 38
    · rcases q3 with q | q | q | q | q | q
      · exact rt_talk1 _ (sc_9readChoice (n1 + 1)) _ rfl (fun I B J L t r c md hC H => ih (op + 1) (by omega) I B J L t r c md (n1 + 1) (n2 + 1 + 1) (by omega) (by omega) hC H) hC H (kd := 33) (w := 2) (by omega) q
      · exact rt_talk1 _ (sc_9readChoice (n1 + 1)) _ rfl (fun I B J L t r c md hC H => ih (op + 1) (by omega) I B J L t r c md (n1 + 1) (n2 + 1 + 1) (by omega) (by omega) hC H) hC H (kd := 63) (w := 3) (by omega) q
      · exact rt_talk2 _ (sc_9readChoice (n1 + 1)) _ rfl hfm (fun I B J L t r c md hC H => ih (op + 1) (by omega) I B J L t r c md (n1 + 1) (n2 + 1 + 1) (by omega) (by omega) hC H) hC H (kd := 62) (w := 4) (by omega) q
      · exact rt_talk2 _ (sc_9readChoice (n1 + 1)) _ rfl hfm (fun I B J L t r c md hC H => ih (op + 1) (by omega) I B J L t r c md (n1 + 1) (n2 + 1 + 1) (by omega) (by omega) hC H) hC H (kd := 60) (w := 5) (by omega) q
      · exact rt_choice _ (sc_9readChoice (n1 + 1)) _ (sc_12choice (n2 + 1)) rfl rfl hfm (fun I B J L t r c md hC H => ih (op + 1) (by omega) I B J L t r c md (n1 + 1) (n2 + 1) (by omega) (by omega) hC H) hC H (kd := 43) (w := 6) (by omega) q
      · exact rt_choice _ (sc_9readChoice (n1 + 1)) _ (sc_12choice (n2 + 1)) rfl rfl hfm (fun I B J L t r c md hC H => ih (op + 1) (by omega) I B J L t r c md (n1 + 1) (n2 + 1) (by omega) (by omega) hC H) hC H (kd := 38) (w := 7) (by omega) q
    · exact rt_bad _ _ hC H.1 q1 q2 q3
end
