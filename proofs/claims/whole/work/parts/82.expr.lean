/-! Es ARE READ, in both (pure) -/
theorem ru_succ (n : Nat) (I : iT) (F : fT) (x : Int32) : mX7_readUnit (n + 1) I F x = bX7_readUnit (sc_7readSum n) I F x := rfl
theorem rs_succ (n : Nat) (I : iT) (F : fT) (y x : Int32) : mX7_readSum (n + 1) I F y x = bX7_readSum (sc_7readSum n) I F y x := rfl
section
variable {k : Nat} {f p : Int32} {I : iT} {F : fT}
theorem fm_unit (h : FM k f p I) (R : sc_7readSumT) (x : Int32) : bX7_readUnit R I F x = some (-1, I) := by
  unfold bX7_readUnit
  rw [h.2.2.2.1, if_neg (by decide), if_neg (by decide), if_neg (by decide), if_neg (by decide), fm_refuse h, sb]
theorem fm_36 (h : FM k f p I) (R : sc_7readSumT) (n : Nat) {x1 : Int32} (hj : mX7_joins x1 259 = some 0) (x2 x3 x4 x5 : Int32) : mX7_readSum_36 R (n + 1) I F x1 x2 x3 x4 x5 = some (x3, I) := by
  rw [mX7_readSum_36, h.2.2.2.1, hj]
  by_cases q : x4 ≤ x5
  · rw [if_pos q]
  · rw [if_neg q, sb, if_pos rfl]
theorem fm_sum3 (h : FM k f p I) (n : Nat) (x : Int32) : mX7_readSum (n + 2) I F 3 x = some (-1, I) := by
  rw [rs_succ]
  unfold bX7_readSum
  rw [if_neg (by decide)]
  show (bX7_readUnit (sc_7readSum n) I F x).bind _ = _
  rw [fm_unit h, sb]
theorem fm_sum2 (h : FM k f p I) (n : Nat) (x : Int32) : mX7_readSum (n + 3) I F 2 x = some (-1, I) := by
  have hLF : LF = 99999 + 1 := rfl
  rw [rs_succ]
  unfold bX7_readSum
  rw [if_pos (by decide)]
  have : (sc_7readSum (n + 2)).1 I F (2 + 1) x = some (-1, I) := fm_sum3 h n x
  rw [this, sb, if_neg (by decide)]
  unfold mX7_readSum_31
  rw [hLF]
  exact fm_36 h _ _ (by decide) _ _ _ _
theorem fm_sum1 (h : FM k f p I) (n : Nat) (x : Int32) : mX7_readSum (n + 4) I F 1 x = some (-1, I) := by
  have hLF : LF = 99999 + 1 := rfl
  rw [rs_succ]
  unfold bX7_readSum
  rw [if_pos (by decide)]
  have : (sc_7readSum (n + 3)).1 I F (1 + 1) x = some (-1, I) := fm_sum2 h n x
  rw [this, sb, if_neg (by decide)]
  unfold mX7_readSum_31
  rw [hLF]
  exact fm_36 h _ _ (by decide) _ _ _ _
theorem fm_sum0 (h : FM k f p I) (n : Nat) (x : Int32) : mX7_readSum (n + 5) I F 0 x = some (-1, I) := by
  have hLF : LF = 99999 + 1 := rfl
  rw [rs_succ]
  unfold bX7_readSum
  rw [if_pos (by decide)]
  have : (sc_7readSum (n + 4)).1 I F (0 + 1) x = some (-1, I) := fm_sum1 h n x
  rw [this, sb, if_pos rfl]
  unfold mX7_readSum_31
  rw [hLF]
  exact fm_36 h _ _ (by decide) _ _ _ _
end
section
variable {k h M n : Nat} {F : fT} {I B : iT} {J : jT} {L : lT} {bs : List Nat} {t : Tok} {r : List Tok} {P md nest lv : Nat} {S : List Sl} {a6 a8 a0 : List Int32}
/-- both add a node above what they have read -/
theorem xn_ok {I1 B1 : iT} {J1 : jT} {L1 : lT} {md1 f0 e1 r1 d1 ρ : Nat} (hC : CR I1 B1 J1 bs t r) (H : XS k h M n F I1 B1 J1 L1 t.2.2 md1 nest lv S a6 a8 a0) (Q : Nat → Prop) (hQ : ∀ v, Q v → v < 1400 * h + md1) (hE : ER k n (nsS S) L1 B1 Q d1 e1 r1 f0 ρ) (hl1 : (L1 (k + 19)).length + 1 ≤ t.2.2) (hl2 : md1 + 1 ≤ t.2.2) (opc : Int32) (rx y1 y2 : Int32) (wc : Int32) :
    ∃ I2 B2 J2, mX8_addNode (k + 18) I1 opc (nI r1) rx = some (nI (L1 (k + 19)).length, I2) ∧ mX12_node B1 J1 wc y1 y2 0 = some (nI (1400 * h + md1), B2, J2) ∧ CR I2 (a_u2 B2 186 47 (nI (1400 * h + md1))) J2 bs t r ∧ XS k h M n F I2 (a_u2 B2 186 47 (nI (1400 * h + md1))) J2 (adS k L1 opc (nI r1) rx (nI f0)) t.2.2 (md1 + 1) nest lv S a6 a8 a0 ∧ cS k I1 I2 ∧ rS h md1 B1 J1 (a_u2 B2 186 47 (nI (1400 * h + md1))) J2 ∧ (a_u2 B2 186 47 (nI (1400 * h + md1))) 188 (1400 * h + md1) = wc ∧ (a_u2 B2 186 47 (nI (1400 * h + md1))) 189 (1400 * h + md1) = y1 ∧ (a_u2 B2 186 47 (nI (1400 * h + md1))) 190 (1400 * h + md1) = y2 ∧ (∀ v, v < 1400 * h + md1 → (a_u2 B2 186 47 (nI (1400 * h + md1))) 188 v = B1 188 v ∧ (a_u2 B2 186 47 (nI (1400 * h + md1))) 189 v = B1 189 v ∧ (a_u2 B2 186 47 (nI (1400 * h + md1))) 190 v = B1 190 v) := by
  have hP := cr_end hC
  have hk := H.1.1
  have eu := er_u hE
  obtain ⟨I2, m1, m2, m3⟩ := node_ok8 H.1 H.2.2.2.1 (by omega) opc (l := r1) (by omega) rx
  rw [eu.2.2.2.2] at m2
  obtain ⟨B2, J2, n1, n2, n3, n4, n5, n6, n7, n8, n9⟩ := xs_node H (by omega) wc y1 y2 0
  have hlen : (adS k L1 opc (nI r1) rx (nI f0) (k + 19)).length = (L1 (k + 19)).length + 1 := by rw [adS_19]; simp
  refine ⟨I2, B2, J2, m1, n1, ?_, ?_, fun b _ q => m3 b q, n7.trans (sc_rS (by omega) _) (Nat.le_refl _), ?_, ?_, ?_, fun v hv => ⟨?_, ?_, ?_⟩⟩
  · exact CR_B (CR_I hC (m3 6 (by omega)) (m3 9 (by omega)) (m3 10 (by omega)) (m3 11 (by omega))) (fun i _ _ => by rw [a_u2_n _ _ (by omega), n8 _ _ (by omega) (by omega)]) (funext fun i => by rw [a_u2_n _ _ (by omega), n8 _ _ (by omega) (by omega)]) (n9 _ _ (by omega))
  · exact xs_rows (xs_sc (n2 t.2.2 (Nat.le_refl _) (by omega)) (nI (1400 * h + md1))) m2 (adS_sumL H.2.2.2.1 _ _ _ _ (Or.inr ⟨f0, by have := eu.2.2.1; have := eu.2.2.2.1; omega, rfl⟩)) (fun a q => adS_n _ _ _ _ (by omega)) m3 (by rw [hlen]; omega) (Nat.le_refl _)
  · rw [a_u2_n _ _ (by omega)]; exact n3
  · rw [a_u2_n _ _ (by omega)]; exact n4
  · rw [a_u2_n _ _ (by omega)]; exact n5
  · rw [a_u2_n _ _ (by omega), n8 _ _ (by omega) (by omega)]
  · rw [a_u2_n _ _ (by omega), n8 _ _ (by omega) (by omega)]
  · rw [a_u2_n _ _ (by omega), n8 _ _ (by omega) (by omega)]
/-- a bracket or a minus: both go behind it, or both refuse -/
theorem jopens (hC : CR I B J bs t r) (H : XS k h M n F I B J L t.2.2 md nest lv S a6 a8 a0) (hn : t.1 ≠ 260) :
    (nest = 8 ∧ ∃ I' B', mX2_refuse I 5 (nI t.2.2) = some I' ∧ mX12_opens B J = some (0, B', J) ∧ FAIL k h I B J I' B' J) ∨
    (nest < 8 ∧ ∃ u r' I' B' J', mX2_advance I = some I' ∧ mX12_opens B J = some (1, B', J') ∧ CR I' B' J' bs u r' ∧ XS k h M n F I' B' J' L u.2.2 md (nest + 1) lv S a6 a8 a0 ∧ t.2.2 + tl t.1 ≤ u.2.2 ∧ cf I I' ∧ rS h md B J B' J') := by
  have h45 := H.2.2.2.2.2.2.1
  unfold mX12_opens
  rw [h45.1]
  rcases Nat.lt_or_ge nest 8 with q | q
  · right
    have q' : ¬ nI nest = 8 := fun z => by have := (nI_eq (a := nest) (b := 8) (by omega) (by omega)).mp z; omega
    have hC1 : CR I (a_u2 B 186 45 (nI (nest + 1))) J bs t r := CR_B hC (fun i _ _ => a_u2_n _ _ (by omega)) (a_u2_r _ _ (by decide)) rfl
    obtain ⟨u, r', I2, B2, J2, k1, k2, k3, k4, k5, k6, k7⟩ := jadv hC1 hn
    refine ⟨q, u, r', I2, B2, J2, k2, by rw [if_neg q', nI_1, k3, sb], k4, xs_cur (xs_nest H (by omega)) k6 k7 (by omega), k5, k6, (sc_rS (by omega) _).trans (rf_rS k7) (Nat.le_refl _)⟩
  · left
    have q8 : nest = 8 := by omega
    obtain ⟨I1, B1, a1, a2, a3, _⟩ := jbad hC H.1 h (f := 5) (by decide) (nI t.2.2)
    exact ⟨q8, I1, B1, a1, by rw [if_pos (by rw [q8]; rfl), cr_4 hC, a2, sb, if_pos (Or.inl rfl)], a3⟩
theorem xu_ok (R : sc_7readSumT) (R' : sc_12expressionT) {ρ ρ1 : Nat} (hρ : ρ1 + 1 ≤ ρ) (hρ1 : 1 ≤ ρ) (hu : nest < 8 → ∀ (I B : iT) (J : jT) (L : lT) (t : Tok) (r : List Tok) (md : Nat), CR I B J bs t r → XS k h M n F I B J L t.2.2 md (nest + 1) lv S a6 a8 a0 → XO k h M n F I B J L bs t.2.2 md (nest + 1) lv S a6 a8 a0 ρ1 (R.2 I F (nI (nest + 1))) (R'.2.2.2 B J)) (he : nest < 8 → ∀ (I B : iT) (J : jT) (L : lT) (t : Tok) (r : List Tok) (md : Nat), CR I B J bs t r → XS k h M n F I B J L t.2.2 md (nest + 1) lv S a6 a8 a0 → XO k h M n F I B J L bs t.2.2 md (nest + 1) lv S a6 a8 a0 ρ (R.1 I F 0 (nI (nest + 1))) (R'.1 B J)) (hC : CR I B J bs t r) (H : XS k h M n F I B J L t.2.2 md nest lv S a6 a8 a0) :
    XO k h M n F I B J L bs t.2.2 md nest lv S a6 a8 a0 ρ (bX7_readUnit R I F (nI nest)) (bX12_unit R' B J) := by
  have c257 : I 6 6 = 257 ↔ t.1 = 257 := cr_c hC 257 (by omega)
  have c256 : I 6 6 = 256 ↔ t.1 = 256 := cr_c hC 256 (by omega)
  have c45 : I 6 6 = 45 ↔ t.1 = 45 := cr_c hC 45 (by omega)
  have c40 : I 6 6 = 40 ↔ t.1 = 40 := cr_c hC 40 (by omega)
  have r3 : B 186 3 = 3 ↔ t.1 = 257 := cr_r hC 257 (by decide)
  have r2 : B 186 3 = 2 ↔ t.1 = 256 := cr_r hC 256 (by decide)
  have s45 : mX12_isSign B 45 = some (if t.1 = 45 then 1 else 0) := cr_sign hC 45 (by decide)
  have s40 : mX12_isSign B 40 = some (if t.1 = 40 then 1 else 0) := cr_sign hC 40 (by decide)
  have hk := H.1.1
  have hP := cr_end hC
  have hh := H.2.2.2.2.1.1
  unfold bX7_readUnit bX12_unit
  by_cases q1 : t.1 = 257
  · have hv : I 6 7 = nI (t.2.1.headD 0) := hC.1.2.2.1.2 q1
    have hr5 : B 186 5 = nI (t.2.1.headD 0) := hC.2.1.2.2.2.2.1 q1
    have hlt := (cr_wf hC).2.2 q1
    rw [if_pos (c257.mpr q1), if_pos (r3.mpr q1)]
    have e1 : mX7_readUnit_22 R I F (nI nest) (I 6 6) = mX7_readUnit_93 R I F (nI nest) (nI 257) (nI (t.2.1.headD 0)) := by
      unfold mX7_readUnit_22 mX7_readUnit_53
      rw [c257.mpr q1, if_pos rfl, if_neg (by decide), hv]; rfl
    rw [e1, hr5]
    exact xu_leaf R hC H (by omega) hρ1 (nI nest) (kd := 257) (wc := 20) (v := t.2.1.headD 0) (rv := t.2.1.headD 0) (Or.inl ⟨rfl, rfl, rfl, hlt⟩)
  rw [if_neg (fun z => q1 (c257.mp z)), if_neg (fun z => q1 (r3.mp z))]
  by_cases q2 : t.1 = 256
  · have hwN : isN t.2.1 := (cr_wf hC).2.1 q2
    have hv : I 6 7 = nI (cN t.2.1) := hC.1.2.2.1.1 q2
    have hJ6 : J 186 6 = lN (rN t.2.1) := hC.2.1.2.2.2.1 q2
    rw [if_pos (c256.mpr q2), if_pos (r2.mpr q2), hJ6]
    have hsr := H.2.2.2.2.2.1
    have fail : ∀ s0, (mX2_refuse I 2 (I 6 8)).bind (fun q10 => mX7_readUnit_93 R q10 F (nI nest) (I 6 6) s0) = mX7_readUnit_78 R I F (nI nest) (I 6 6) s0 := fun s0 => rfl
    have failX : ∀ s0 y, ∃ x I' B', mX7_readUnit_78 R I F (nI nest) (I 6 6) s0 = some (x, I') ∧ mX12_unit_61 R' B J y = some (0, B', J) ∧ FAIL k h I B J I' B' J := by
      intro s0 y
      obtain ⟨I1, B1, a1, a2, a3, _⟩ := jbad hC H.1 h (f := 2) (by decide) (nI t.2.2)
      obtain ⟨x, I2, b1, b2⟩ := fmo_FAIL a3 (o := mX7_readUnit_93 R I1 F (nI nest) (I 6 6) s0) (fun f p hf => by
        unfold mX7_readUnit_93
        rw [fm_adv hf, sb, H.2.1]
        exact fmo_o (fm_leaf hf _ _) (fun v I3 h3 => fmo_ret h3 _))
      refine ⟨x, I2, B1, ?_, ?_, b2⟩
      · unfold mX7_readUnit_78
        rw [cr_8 hC, a1, sb]; exact b1
      · unfold mX12_unit_61
        rw [cr_4 hC, a2, sb, if_pos (Or.inl rfl)]
    unfold mX7_readUnit_22
    rw [if_neg (fun z => q1 (c257.mp z)), hv]
    rcases sr_find hsr hwN with ⟨i, s, f1, f2, f3, f4, f5⟩ | ⟨f1, f2, f3⟩
    · have hil : i < S.length := (List.getElem?_eq_some_iff.mp f1).1
      obtain ⟨hW, ⟨g1, g2, g3, g4, g5, g6, g7⟩, hS, hD, _⟩ := hsr
      obtain ⟨d1, d2, d3⟩ := hS i s f1
      have hsg : sg n i < 85 := by have := sg_lt g4 hil; omega
      rw [f4, sb, f5, sb, if_neg (nIm (by omega)), if_pos (in128 (by omega)), congrArg (B 208) (cl128 (by omega)), (d3.2.1 f2).2]
      unfold mX7_readUnit_53
      rw [if_pos (c256.mpr q2), if_neg (nIm (by omega)), sr_talk H.2.2.2.2.2.1 f1, sb]
      by_cases z1 : s.1 = 1
      · have e1 : mX7_readUnit_93 R I F (nI nest) (I 6 6) (nI i) = mX7_readUnit_93 R I F (nI nest) (nI 256) (nI i) := by rw [c256.mpr q2]; rfl
        rw [if_neg (show ¬ s.1 = 2 by omega), if_pos rfl, if_pos z1, if_pos rfl, e1]
        exact xu_leaf R hC H (by omega) hρ1 (nI nest) (kd := 256) (wc := 21) (v := i) (rv := sg n i) (Or.inr ⟨rfl, rfl, rfl, by omega, s, f1, z1⟩)
      · have z2 : s.1 = 2 := by omega
        have ht2 := (tr_u (d3.2.2 z2).2.2).2.2
        have hKb := rs_K H.1
        obtain ⟨x, I', B', a1, a2, a3⟩ := failX (nI i) (nI (sg n i))
        have hn0 : ¬ (if s.1 = 1 then (0 : Int32) else if i = 0 then 1 else 2) = 0 := by
          rw [if_neg z1]
          by_cases y : i = 0
          · rw [if_pos y]; decide
          · rw [if_neg y]; decide
        rw [if_pos z2, if_neg (nIm (by omega)), if_neg hn0]
        exact ⟨x, I', 0, B', J, a1, a2, Or.inl ⟨rfl, a3⟩⟩
    · obtain ⟨x, I', B', a1, a2, a3⟩ := failX (-1) (-1)
      rw [f2, sb, f3, sb, if_pos rfl]
      unfold mX7_readUnit_53
      rw [if_pos (c256.mpr q2), if_pos rfl]
      exact ⟨x, I', 0, B', J, a1, a2, Or.inl ⟨rfl, a3⟩⟩
  rw [if_neg (fun z => q2 (c256.mp z)), if_neg (fun z => q2 (r2.mp z)), s45, sb]
  by_cases q3 : t.1 = 45
  · rw [if_pos (c45.mpr q3), if_pos q3, if_neg i10]
    unfold mX7_readUnit_139
    have htl : tl t.1 = 1 := by rw [q3]; decide
    rcases jopens hC H (by omega) with ⟨o8, I1, B1, o1, o2, o3⟩ | ⟨o8, u, r', I1, B1, J1, o1, o2, o3, o4, o5, o6, o7⟩
    · rw [if_neg (show ¬ nI nest < 8 by rw [o8]; decide), cr_8 hC, o1, sb, o2, sb, if_pos rfl]
      exact ⟨-1, I1, 0, B1, J, rfl, rfl, Or.inl ⟨rfl, o3⟩⟩
    · rw [if_pos (show nI nest < 8 from nI_lt (b := 8) o8 (by omega)), o1, sb, if_pos (c45.mpr q3), o2, sb, if_neg i10, nI_1, H.2.1]
      rw [htl] at o5
      obtain ⟨x, I2, v, B2, J2, e1, e2, HO⟩ := hu o8 I1 B1 J1 L u r' md o3 o4
      rw [e1, sb, e2, sb]
      rcases HO with ⟨hv, hF⟩ | ⟨hv, root, hx, L2, t2, r2', md2, e, d, g1, g2, g3, g4, g5, g6, g7, g8, g9, g10, g11, g12, g13⟩
      · subst hv
        obtain ⟨x', I', a1, a2⟩ := fmo_FAIL (FAIL.pre (cf_FX o6) (rS_RX o7) hF) (o := (mX2_failed I2).bind fun q5 => if q5 = 0 then (mX8_addNode (k + 18) I2 261 x (-1)).bind fun q6 => some (q6.1, q6.2) else some (-1, I2)) (fun f p hf => by
          rw [fm_failed hf, sb, if_neg i10]
          exact fmo_ret hf _)
        exact ⟨x', I', 0, B2, J2, a1, by rw [if_pos rfl], Or.inl ⟨rfl, a2⟩⟩
      · subst hv
        subst hx
        have b1 := H.2.2.2.2.2.2.2.1
        have b2 := H.2.2.2.2.2.2.2.2
        have e45 : B2 186 45 - 1 = nI nest := by rw [g2.2.2.2.2.2.2.1.1, nI_pred]
        have hC2 : CR I2 (a_u2 B2 186 45 (nI nest)) J2 bs t2 r2' := CR_B g1 (fun i _ _ => a_u2_n _ _ (by omega)) (a_u2_r _ _ (by decide)) rfl
        have H2' := xs_nest g2 (nest' := nest) (by omega)
        have hE' : ER k n (nsS S) L2 (a_u2 B2 186 45 (nI nest)) (fun v => 1400 * h + md ≤ v ∧ v < 1400 * h + md2) d e root (L (k + 19)).length ρ1 := er_to g2.2.2.2.1 SE.rfl (fun v _ => ⟨a_u2_n _ _ (by omega), a_u2_n _ _ (by omega), a_u2_n _ _ (by omega)⟩) (fun v hv => hv) _ _ _ _ _ _ _ (Nat.le_refl _) (Nat.le_refl _) g4
        have eu := er_u g4
        obtain ⟨I3, B3, J3, m1, m2, m3, m4, m5, m6, m7, m8, m9, m10⟩ := xn_ok hC2 H2' _ (fun v hv => hv.2) hE' (by omega) (by omega) 261 (-1) (nI e) (-1) 22
        have hlen : (adS k L2 261 (nI root) (-1) (nI (L (k + 19)).length) (k + 19)).length = (L2 (k + 19)).length + 1 := by rw [adS_19]; simp
        have e47 : (a_u2 B2 186 45 (nI nest)) 186 47 = nI e := by rw [a_u2_n _ _ (by decide)]; exact g5
        obtain ⟨l1, l2, l3, l4⟩ := g2.2.2.2.1
        refine ⟨nI (L2 (k + 19)).length, I3, 1, a_u2 B3 186 47 (nI (1400 * h + md2)), J3, ?_, ?_, Or.inr ⟨rfl, (L2 (k + 19)).length, rfl, _, t2, r2', md2 + 1, 1400 * h + md2, d + 1, m3, m4, by rw [hlen], ?_, a_u2_s _ _ _ _, g6.trans (adS_SE _ _ _ _), fun a q => by rw [adS_n _ _ _ _ (by omega), g7 a q], by omega, by rw [hlen]; omega, by omega, by omega, (cf_cS o6).trans (g12.trans m5), (o7.trans g13 (Nat.le_refl _)).trans ((sc_rS (by omega) _).trans m6 (Nat.le_refl _)) g8⟩⟩
        · rw [cr_failed g1, sb, if_pos rfl, m1, sb]
        · rw [if_neg i10]
          show ((mX12_node (a_u2 B2 186 45 (B2 186 45 - 1)) J2 22 ((a_u2 B2 186 45 (B2 186 45 - 1)) 186 47) (-1) 0).bind _) = _
          rw [e45, e47, m2, sb]
        · refine ⟨by have := cr_end g1; omega, ⟨by omega, by omega⟩, by rw [hlen]; omega, by omega, ?_, hρ1, Or.inr (Or.inr (Or.inl ⟨e, root, ρ1, m7, m8, ?_, ?_, ?_, by omega, hρ, ?_⟩))⟩
          · rw [adS_25, ← l3]; exact gI_e _ _
          · rw [adS_19]; exact gI_e _ _
          · rw [adS_21, ← l1]; exact gI_e _ _
          · rw [adS_23, ← l2]; exact gI_e _ _
          · exact er_to g2.2.2.2.1 (adS_SE _ _ _ _) (fun v hv => m10 v (by omega)) (fun v hv => ⟨hv.1, by omega⟩) _ _ _ _ _ _ _ (Nat.le_refl _) (Nat.le_refl _) hE'
  rw [if_neg (fun z => q3 (c45.mp z)), if_neg q3, if_pos rfl, s40, sb]
  by_cases q4 : t.1 = 40
  · rw [if_pos (c40.mpr q4), if_pos q4, if_neg i10]
    unfold mX7_readUnit_139
    have htl : tl t.1 = 1 := by rw [q4]; decide
    rcases jopens hC H (by omega) with ⟨o8, I1, B1, o1, o2, o3⟩ | ⟨o8, u, r', I1, B1, J1, o1, o2, o3, o4, o5, o6, o7⟩
    · rw [if_neg (show ¬ nI nest < 8 by rw [o8]; decide), cr_8 hC, o1, sb, o2, sb, if_pos rfl]
      exact ⟨-1, I1, 0, B1, J, rfl, rfl, Or.inl ⟨rfl, o3⟩⟩
    · rw [if_pos (show nI nest < 8 from nI_lt (b := 8) o8 (by omega)), o1, sb, if_neg (fun z => q3 (c45.mp z)), o2, sb, if_neg i10, nI_1]
      rw [htl] at o5
      obtain ⟨x, I2, v, B2, J2, e1, e2, HO⟩ := he o8 I1 B1 J1 L u r' md o3 o4
      rw [e1, sb, e2, sb]
      rcases HO with ⟨hv, hF⟩ | ⟨hv, root, hx, L2, t2, r2', md2, e, d, g1, g2, g3, g4, g5, g6, g7, g8, g9, g10, g11, g12, g13⟩
      · subst hv
        obtain ⟨x', I', a1, a2⟩ := fmo_FAIL (FAIL.pre (cf_FX o6) (rS_RX o7) hF) (o := (mX2_want I2 41).bind fun q3 => some (x, q3)) (fun f p hf => by
          rw [fm_want hf (by decide), sb]
          exact fmo_ret hf _)
        exact ⟨x', I', 0, B2, J2, a1, by rw [if_pos rfl], Or.inl ⟨rfl, a2⟩⟩
      · subst hv
        subst hx
        rcases jneed g1 g2.1 h 41 (by decide) with ⟨y, u4, r4, I4, B4, J4, k1, k2, k3, k4, k5, k6, k7⟩ | ⟨y, I4, B4, k2, k3, k4⟩
        · have k2' : mX2_want I2 41 = some I4 := k2
          have k3' : mX12_need B2 J2 41 = some (1, B4, J4) := k3
          have htl2 : tl t2.1 = 1 := by rw [y]; decide
          rw [htl2] at k5
          have H4 := xs_cur g2 k6 k7 (P' := u4.2.2) (by omega)
          have e45 : B4 186 45 - 1 = nI nest := by rw [H4.2.2.2.2.2.2.1.1, nI_pred]
          refine ⟨nI root, I4, 1, a_u2 B4 186 45 (nI nest), J4, by rw [k2', sb], ?_, Or.inr ⟨rfl, root, rfl, L2, u4, r4, md2, e, d, CR_B k4 (fun i _ _ => a_u2_n _ _ (by omega)) (a_u2_r _ _ (by decide)) rfl, xs_nest H4 (by omega), g3, ?_, ?_, g6, g7, g8, by omega, by omega, by omega, (cf_cS o6).trans (g12.trans (cf_cS k6)), ((o7.trans g13 (Nat.le_refl _)).trans (rf_rS k7) g8).trans (sc_rS (by omega) _) g8⟩⟩
          · rw [if_neg i10, k3', sb, if_neg i10]
            show some (1, a_u2 B4 186 45 (B4 186 45 - 1), J4) = _
            rw [e45]
          · exact er_to g2.2.2.2.1 SE.rfl (fun v hv => ⟨by rw [a_u2_n _ _ (by omega), k7.1 _ _ (by omega)], by rw [a_u2_n _ _ (by omega), k7.1 _ _ (by omega)], by rw [a_u2_n _ _ (by omega), k7.1 _ _ (by omega)]⟩) (fun v hv => hv) _ _ _ _ _ _ _ (Nat.le_refl _) (Nat.le_refl _) g4
          · rw [a_u2_n _ _ (by decide), k7.1 _ _ (by omega)]; exact g5
        · have k2' : mX2_want I2 41 = some I4 := k2
          have k3' : mX12_need B2 J2 41 = some (0, B4, J2) := k3
          refine ⟨nI root, I4, 0, B4, J2, by rw [k2', sb], by rw [if_neg i10, k3', sb, if_pos rfl], Or.inl ⟨rfl, FAIL.pre ((cf_FX o6).trans (cS_FX g12)) ((rS_RX o7).trans (rS_RX g13)) k4⟩⟩
  · rw [if_neg (fun z => q4 (c40.mp z)), if_neg q4, if_pos rfl]
    obtain ⟨I1, B1, a1, a2, a3, _⟩ := jbad hC H.1 h (f := 1) (by decide) (nI t.2.2)
    exact ⟨-1, I1, 0, B1, J, by rw [cr_8 hC, a1, sb], by rw [cr_4 hC, a2, sb, if_pos (Or.inl rfl)], Or.inl ⟨rfl, a3⟩⟩
end
