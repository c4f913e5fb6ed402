/-! A TYPE IS READ, in both (pure): its parts are counted, end, a NAME, what cannot stand -/
section
variable {k h M : Nat} {W : List Ent} {F : fT} {I B : iT} {J : jT} {L : lT} {bs : List Nat} {t : Tok} {r : List Tok} {P c md op : Nat}
theorem fm_77 {f p : Int32} (R : sc_9readChoiceT) {I : iT} (hf : FM k f p I) (x1 x2 : Int32) : FMo k f p I (mX9_readType_77 R I F x1 x2) := by
  unfold mX9_readType_77
  refine fmo_u (fm_count hf _ _) (fun I1 h1 => ?_)
  rw [fm_adv h1, sb, fm_failed h1, sb, if_neg i10]
  exact fmo_ret h1 _
theorem fm_49 {f p : Int32} (R : sc_9readChoiceT) {I : iT} (hf : FM k f p I) (x1 x2 : Int32) : FMo k f p I (mX9_readType_49 R I F x1 x2) := by
  unfold mX9_readType_49
  rw [fm_refuse hf, sb]
  exact fmo_if (fm_77 R hf _ _) (fmo_if (fm_77 R hf _ _) (fm_77 R hf _ _))
theorem nt_sc {h' M' : Nat} {B' : iT} (hN : NT k h' M' L B J W) (hT : tabL k L) (hB : ∀ b i, b ≠ 186 → B' b i = B b i) : NT k h' M' L B' J W :=
  nt_to hN hT TE.rfl rfl rfl (fun v _ _ => ⟨hB _ _ (by omega), hB _ _ (by omega), hB _ _ (by omega), hB _ _ (by omega), rfl⟩) (hB _ _ (by omega)) (fun i => rfl) (fun i => hB _ _ (by omega))
theorem ts_sc (H : TS k h M W F I B J L P c md op) {c' : Nat} (hc : c' ≤ 200) : TS k h M W F (a_u2 I 142 4 (nI c')) (a_u2 B 186 34 (nI c')) J L P c' md op := by
  obtain ⟨h1, h2, h3, h4, ⟨h5, h6, h7, h8, h9⟩, ⟨h10, h11, h12⟩, ⟨h13, h14, h15, h16⟩, h17⟩ := H
  refine ⟨rs_sc h1 (by decide) _ _, h2, h3, nt_sc h4 h3 (fun b i q => a_u2_n _ _ (by omega)), ⟨h5, by rw [a_u2_n _ _ (by decide)]; exact h6, by rw [a_u2_n _ _ (by decide)]; exact h7, by rw [a_u2_n _ _ (by decide)]; exact h8, h9⟩, ⟨a_u2_s _ _ _ _, a_u2_s _ _ _ _, hc⟩, ⟨by rw [a_u2_n _ _ (by decide)]; exact h13, h14, h15, h16⟩, h17⟩
theorem ts_op (H : TS k h M W F I B J L P c md op) {op' : Nat} (h12 : op' ≤ 12) (hd : (L 143).length ≤ 6 * op') : TS k h M W F I (a_u2 B 186 35 (nI op')) J L P c md op' := by
  obtain ⟨h1, h2, h3, h4, ⟨h5, h6, h7, h8, h9⟩, ⟨h10, h11, h12'⟩, ⟨h13, h14, h15, h16⟩, h17⟩ := H
  exact ⟨h1, h2, h3, nt_sc h4 h3 (fun b i q => a_u2_n _ _ (by omega)), ⟨h5, by rw [a_u2_n _ _ (by decide)]; exact h6, by rw [a_u2_n _ _ (by decide)]; exact h7, by rw [a_u2_n _ _ (by decide)]; exact h8, h9⟩, ⟨by rw [a_u2_n _ _ (by decide)]; exact h10, h11, h12'⟩, ⟨a_u2_s _ _ _ _, h12, h15, hd⟩, h17⟩
/-- another scalar of the reference: the type that was read last -/
theorem ts_ty (H : TS k h M W F I B J L P c md op) (v : Int32) : TS k h M W F I (a_u2 B 186 36 v) J L P c md op := by
  obtain ⟨h1, h2, h3, h4, ⟨h5, h6, h7, h8, h9⟩, ⟨h10, h11, h12⟩, ⟨h13, h14, h15, h16⟩, h17⟩ := H
  exact ⟨h1, h2, h3, nt_sc h4 h3 (fun b i q => a_u2_n _ _ (by omega)), ⟨h5, by rw [a_u2_n _ _ (by decide)]; exact h6, by rw [a_u2_n _ _ (by decide)]; exact h7, by rw [a_u2_n _ _ (by decide)]; exact h8, h9⟩, ⟨by rw [a_u2_n _ _ (by decide)]; exact h10, h11, h12⟩, ⟨by rw [a_u2_n _ _ (by decide)]; exact h13, h14, h15, h16⟩, h17⟩
/-- a new node of the reference -/
theorem ts_node (H : TS k h M W F I B J L P c md op) (hmd : md < 1000) (x1 x2 x3 : Int32) (w : Int64) : ∃ B' J', mX12_node B J x1 x2 x3 w = some (nI (1400 * h + md), B', J') ∧ (∀ P', P + 1 ≤ P' → TS k h M W F I B' J' L P' c (md + 1) op) ∧ B' 188 (1400 * h + md) = x1 ∧ B' 189 (1400 * h + md) = x2 ∧ B' 190 (1400 * h + md) = x3 ∧ J' 192 (1400 * h + md) = w ∧ rT h md B J B' J' ∧ (∀ b i, ¬ (b = 186 ∧ i = 17) → ¬ (188 ≤ b ∧ b ≤ 191 ∧ i = 1400 * h + md) → B' b i = B b i) ∧ (∀ b i, ¬ (b = 192 ∧ i = 1400 * h + md) → J' b i = J b i) := by
  obtain ⟨h1, h2, h3, h4, ⟨h5, h6, h7, h8, h9⟩, ⟨h10, h11, h12⟩, ⟨h13, h14, h15, h16⟩, h17, h18, h19⟩ := H
  obtain ⟨B', J', n1, n2, n3, n4, n5, n6, n7, n8, n9⟩ := node_ok (B := B) (J := J) (bs := 1400 * h) (m := md) h7 h8 (by omega) x1 x2 x3 w
  refine ⟨B', J', n1, fun P' hP => ⟨h1, h2, h3, ?_, ⟨h5, by rw [n8 _ _ (by omega) (by omega)]; exact h6, by rw [n8 _ _ (by omega) (by omega)]; exact h7, n2, by omega⟩, ⟨by rw [n8 _ _ (by omega) (by omega)]; exact h10, h11, h12⟩, ⟨by rw [n8 _ _ (by omega) (by omega)]; exact h13, h14, h15, h16⟩, by omega, by omega, by omega⟩, n3, n4, n5, n7, ⟨fun b i q1 q2 => n8 b i (by omega) (by omega), fun b i q1 q2 => n9 b i (by omega)⟩, n8, n9⟩
  exact nt_to h4 h3 TE.rfl rfl rfl (fun v q1 q2 => ⟨n8 _ _ (by omega) (by omega), n8 _ _ (by omega) (by omega), n8 _ _ (by omega) (by omega), n8 _ _ (by omega) (by omega), n9 _ _ (by omega)⟩) (n8 _ _ (by omega) (by omega)) (fun i => n9 _ _ (by omega)) (fun i => n8 _ _ (by omega) (by omega))
/-- both count parts -/
theorem jcount (hC : CR I B J bs t r) {I1 : iT} {L1 : lT} (hR : RS I1 k L1) (h91 : I1 6 9 = 0) (hX : FX k I I1) (hI : I1 142 4 = nI c) (hB : B 186 34 = nI c) (h : Nat) (p : Nat) (hp : c + p < 1000) :
    (c + p ≤ 200 ∧ mX9_countParts I1 (nI p) (nI t.2.2) = some (a_u2 I1 142 4 (nI (c + p))) ∧ mX12_more B (nI p) = some (1, a_u2 B 186 34 (nI (c + p)))) ∨
    (∃ I' B', mX9_countParts I1 (nI p) (nI t.2.2) = some I' ∧ mX12_more B (nI p) = some (0, B') ∧ FAIL k h I B J I' B' J) := by
  have e1 : I1 142 4 + nI p = nI (c + p) := by rw [hI, nI_add]
  have e2 : B 186 34 + nI p = nI (c + p) := by rw [hB, nI_add]
  unfold mX9_countParts mX12_more
  rw [e1, e2, a_u2_s, a_u2_s]
  by_cases q : c + p ≤ 200
  · left
    have q' : nI (c + p) ≤ 200 := nI_le (b := 200) q (by omega)
    exact ⟨q, by rw [if_pos q'], by rw [if_pos q']; rfl⟩
  · right
    have q' : ¬ nI (c + p) ≤ 200 := nI_ge (a := 200) (by omega) (by omega)
    have hC1 : CR I (a_u2 B 186 34 (nI (c + p))) J bs t r := CR_B hC (fun i _ _ => a_u2_n _ _ (by omega)) (a_u2_r _ _ (by decide)) rfl
    obtain ⟨I', a1, a2, a3, _⟩ := refuse_ok (rs_sc hR (c := 142) (by decide) 4 (nI (c + p))) (by rw [a_u2_n _ _ (by decide)]; exact h91) (f := 5) (by decide) (nI t.2.2)
    obtain ⟨B', b1, b2, b3, b4⟩ := bad_ok hC1 5 (nI t.2.2)
    refine ⟨I', B', by rw [if_neg q', a1, sb], ?_, ⟨5, nI t.2.2, a2, (hX.trans (sc_FX (by decide) _ _)).trans a3, b2, b3, fun b i z => ⟨?_, rfl⟩⟩⟩
    · rw [if_neg q', a_u2_n _ _ (show ¬ ((186 : Nat) = 186 ∧ (4 : Nat) = 34) by decide), cr_4 hC, b1, sb, if_pos rfl]
    · unfold touR at z
      rw [b4 b i (by omega), a_u2_n _ _ (by omega)]
theorem isTalk_ok {x : Nat} (hx : x ≤ 316) : mX9_isTalkSign (nI x) = some (if x = 33 ∨ x = 63 ∨ x = 62 ∨ x = 60 ∨ x = 43 ∨ x = 38 then 1 else 0) := (by decide +kernel : ∀ x, x < 317 → mX9_isTalkSign (nI x) = some (if x = 33 ∨ x = 63 ∨ x = 62 ∨ x = 60 ∨ x = 43 ∨ x = 38 then 1 else 0)) x (by omega)
theorem isCh_ok {x : Nat} (hx : x ≤ 316) : mX10_isChoice (nI x) = some (if x = 43 ∨ x = 38 then 1 else 0) := (by decide +kernel : ∀ x, x < 317 → mX10_isChoice (nI x) = some (if x = 43 ∨ x = 38 then 1 else 0)) x (by omega)
/-- end -/
theorem rt_end (R : sc_9readChoiceT) (R' : sc_12choiceT) (hC : CR I B J bs t r) (H : TS k h M W F I B J L t.2.2 c md op) (q : t.1 = 302) : TO k h M W F I B J L bs t.2.2 c md op (bX9_readType R I F (nI op)) (bX12_readType R' B J) := by
  have ec : I 6 6 = 302 := (cr_c hC 302 (by omega)).mpr q
  have er : B 186 3 = 102 := (cr_r hC 302 (by decide)).mpr q
  have hP := cr_end hC
  have H0 := H
  obtain ⟨h1, h2, h3, h4, ⟨h5, h6, h7, h8, h9⟩, ⟨h10, h11, h12⟩, ⟨h13, h14, h15, h16⟩, h17, h18, h19⟩ := H
  have hk := h1.1
  have htl : tl t.1 = 3 := by rw [q]; decide
  have e0 : bX9_readType R I F (nI op) = (mX9_countParts I (nI 1) (nI t.2.2)).bind fun q1 => (mX2_advance q1).bind fun q2 => (mX2_failed q2).bind fun q3 => if q3 = 0 then (mX10_make (k + 1) q2 302 (-1) (-1)).bind fun q7 => some (q7.1, q7.2) else some (-1, q2) := by
    unfold bX9_readType
    rw [if_neg (by rw [ec]; decide), if_pos ec]
    unfold mX9_readType_49 mX9_readType_77
    rw [if_pos ec, cr_8 hC, h2]
    simp only [if_pos ec]
    rfl
  have e1 : bX12_readType R' B J = (mX12_more B (nI 1)).bind fun q22 => if q22.1 = 0 then some (0, q22.2, J) else (mX12_node q22.2 J 1 (-1) (-1) 0).bind fun q23 => (mX12_look0 (a_u2 q23.2.1 186 36 q23.1) q23.2.2).bind fun q24 => some (1, q24.1, q24.2) := by
    unfold bX12_readType
    rw [if_pos er]; rfl
  rw [e0, e1]
  rcases jcount hC h1 (cr_9 hC) FX.rfl h11 h10 h 1 (by omega) with ⟨g1, g2, g3⟩ | ⟨I', B', g1, g2, g3⟩
  · have hC1 : CR (a_u2 I 142 4 (nI (c + 1))) (a_u2 B 186 34 (nI (c + 1))) J bs t r := CR_B (CR_I hC (a_u2_r _ _ (by decide)) (a_u2_r _ _ (by decide)) (a_u2_r _ _ (by decide)) (a_u2_r _ _ (by decide))) (fun i _ _ => a_u2_n _ _ (by omega)) (a_u2_r _ _ (by decide)) rfl
    have H1 := ts_sc H0 g1
    obtain ⟨u0, r0, hr0⟩ : ∃ u0 r0, r = u0 :: r0 := by
      obtain ⟨u0, r0, z1, _⟩ := tkl_more hC.2.2.1 (by omega)
      exact ⟨u0, r0, z1⟩
    have hmd : md < 1000 := by
      have : tkl t r := hC.2.2.1
      rw [hr0] at this
      have z1 := this.2.2.1
      have z2 := tkl_end r0 u0 this.2.2.2
      omega
    obtain ⟨B1, J1, n1, n2, n3, n4, n5, n6, n7, n8, n9⟩ := ts_node H1 hmd 1 (-1) (-1) 0
    have hC2 : CR (a_u2 I 142 4 (nI (c + 1))) (a_u2 B1 186 36 (nI (1400 * h + md))) J1 bs t r := CR_B hC1 (fun i _ _ => by rw [a_u2_n _ _ (by omega), n8 _ _ (by omega) (by omega)]) (funext fun i => by rw [a_u2_n _ _ (by omega), n8 _ _ (by omega) (by omega)]) (n9 _ _ (by omega))
    obtain ⟨u, r', I2, B2, J2, k1, k2, k3, k4, k5, k6, k7⟩ := jadv hC2 (by omega)
    rw [htl] at k5
    have hP2 := cr_end k4
    have H3 := ts_cur (ts_ty (n2 (t.2.2 + 1) (by omega)) (nI (1400 * h + md))) k6 k7 (P' := u.2.2) (by omega)
    obtain ⟨tt, I3, L1, m1, m2, m3, m4, m5, m6, m7, m8, m9, m10, m11⟩ := make_ok H3.1 H3.2.2.1 (by omega) (kd := 302) (x2 := -1) (x3 := -1) (by unfold ch; decide) (Or.inl rfl) (Or.inl rfl)
    refine ⟨nI tt, I3, 1, B2, J2, ?_, ?_, Or.inr ⟨rfl, 1400 * h + md, tt, 1, rfl, L1, u, r', md + 1, ?_, ?_, m4, ?_, ?_, by omega, by omega, by rw [m7]; omega, by omega, by omega, ?_, ?_⟩⟩
    · rw [g2, sb, k2, sb, cr_failed k4, sb, if_pos rfl, m1, sb]
    · rw [g3, sb, if_neg i10, n1, sb, k3, sb]
    · exact CR_I k4 (m11 6 (by omega)) (m11 9 (by omega)) (m11 10 (by omega)) (m11 11 (by omega))
    · obtain ⟨i1, i2, i3, i4, i5, ⟨i6, i7, i8⟩, ⟨i9, i10, i11, i12⟩, i13, i14, i15⟩ := H3
      exact ⟨m2, i2, m3, nt_to i4 i3 m4.1 (m4.2 _ (by omega)) (m4.2 _ (by omega)) (fun v _ _ => ⟨rfl, rfl, rfl, rfl, rfl⟩) rfl (fun _ => rfl) (fun _ => rfl), i5, ⟨i6, by rw [m11 142 (by omega)]; exact i7, i8⟩, ⟨i9, i10, by rw [m4.2 145 (by omega), m4.2 143 (by omega)]; exact i11, by rw [m4.2 143 (by omega)]; exact i12⟩, by omega, by rw [m7]; omega, by omega⟩
    · have nd : ∀ b, 188 ≤ b → b ≤ 190 → B2 b (1400 * h + md) = B1 b (1400 * h + md) := fun b q1 q2 => by rw [k7.1 _ _ (by omega), a_u2_n _ _ (by omega)]
      exact ⟨by omega, Or.inr ⟨by omega, by omega⟩, m5, by rw [k7.2 _ _ (by omega)]; exact n6, Or.inl ⟨m8, by rw [nd _ (by omega) (by omega)]; exact n3, by rw [nd _ (by omega) (by omega)]; exact n4, by rw [nd _ (by omega) (by omega)]; exact n5, m9, m10, rfl⟩⟩
    · rw [k7.1 _ _ (by omega), a_u2_s]
    · exact ((sc_cT 4 _).trans (cf_cT k6)).trans (fun b q1 q2 q3 q4 => m11 b q3)
    · have r1 : rT h md B J (a_u2 B 186 34 (nI (c + 1))) J := ⟨fun b i q1 q2 => a_u2_n _ _ (by omega), fun _ _ _ _ => rfl⟩
      have r2 : rT h md B1 J1 (a_u2 B1 186 36 (nI (1400 * h + md))) J1 := ⟨fun b i q1 q2 => a_u2_n _ _ (by omega), fun _ _ _ _ => rfl⟩
      exact ((r1.trans n7 (Nat.le_refl _)).trans r2 (Nat.le_refl _)).trans (rf_rT k7) (Nat.le_refl _)
  · obtain ⟨x, I2, a1, a2⟩ := fmo_FAIL g3 (o := (mX2_advance I').bind fun q2 => (mX2_failed q2).bind fun q3 => if q3 = 0 then (mX10_make (k + 1) q2 302 (-1) (-1)).bind fun q7 => some (q7.1, q7.2) else some (-1, q2)) (fun f p hf => by
      rw [fm_adv hf, sb, fm_failed hf, sb, if_neg i10]
      exact fmo_ret hf _)
    exact ⟨x, I2, 0, B', J, by rw [g1, sb]; exact a1, by rw [g2, sb, if_pos rfl], Or.inl ⟨rfl, a2⟩⟩
/-- a NAME of a type -/
theorem rt_name (R : sc_9readChoiceT) (R' : sc_12choiceT) (hC : CR I B J bs t r) (H : TS k h M W F I B J L t.2.2 c md op) (q : t.1 = 256) : TO k h M W F I B J L bs t.2.2 c md op (bX9_readType R I F (nI op)) (bX12_readType R' B J) := by
  have ec : I 6 6 = 256 := (cr_c hC 256 (by omega)).mpr q
  have er : B 186 3 = 2 := (cr_r hC 256 (by decide)).mpr q
  have hP := cr_end hC
  have H0 := H
  obtain ⟨h1, h2, h3, h4, ⟨h5, h6, h7, h8, h9⟩, ⟨h10, h11, h12⟩, ⟨h13, h14, h15, h16⟩, h17, h18, h19⟩ := H
  have hk := h1.1
  have hwN : isN t.2.1 := (cr_wf hC).2.1 q
  have hval : I 6 7 = nI (cN t.2.1) := hC.1.2.2.1.1 q
  have hJ6 : J 186 6 = lN (rN t.2.1) := hC.2.1.2.2.2.1 q
  have htl : tl t.1 = 1 := by rw [q]; decide
  obtain ⟨u, r', I1, B1, J1, k1, k2, k3, k4, k5, k6, k7⟩ := jadv hC (by omega)
  rw [htl] at k5
  have hR1 := cf_RS k6 h1
  have eT : mX2_takeName I = some (nI (cN t.2.1), I1) := by
    unfold mX2_takeName
    rw [if_pos ec, k2, sb, hval]
  have e0 : bX9_readType R I F (nI op) = (mX9_readKnown I F).bind fun q11 => some (q11.1, q11.2) := by
    unfold bX9_readType
    rw [if_pos ec]
  have e0' : mX9_readKnown I F = (mX4_find (k + 29) I1 (nI (cN t.2.1))).bind fun q2 => if q2 = -1 then (mX2_refuse I1 2 (nI t.2.2)).bind fun q6 => some (-1, q6) else (mX4_at (k + 31) I1 q2).bind fun q3 => (mX4_at (k + 8) I1 q3).bind fun q4 => (mX9_countParts I1 q4 (nI t.2.2)).bind fun q5 => some (q3, q5) := by
    unfold mX9_readKnown
    rw [eT, sb, h2, cr_8 hC]
  have e1 : bX12_readType R' B J = (mX12_findType B J (lN (rN t.2.1))).bind fun q17 => if q17 = -1 then (mX12_bad B 2 (nI t.2.2)).bind fun q21 => if q21.1 = 0 ∨ q21.1 = 1 then some (q21.1, q21.2, J) else none else (mX12_partsOf SF B q17).bind fun q18 => (mX12_more B q18).bind fun q19 => if q19.1 = 0 then some (0, q19.2, J) else (mX12_look0 (a_u2 q19.2 186 36 q17) J).bind fun q20 => some (1, q20.1, q20.2) := by
    unfold bX12_readType
    rw [if_neg (by rw [er]; decide), if_pos er, hJ6, cr_4 hC]
  rw [e0, e0', e1, rs_find hR1 (by unfold rowA; omega), sb]
  rcases nt_find h4 h5 h6 hwN with ⟨i, e, f1, f2, f3, f4⟩ | ⟨f1, f2⟩
  · obtain ⟨a1, a2, a3, a4, a5⟩ := h4
    obtain ⟨b1, b2, b3, b4, b5⟩ := a5 i e f1
    have hil : i < W.length := (List.getElem?_eq_some_iff.mp f1).1
    have hu := tr_u b5
    have hpp := tr_parts h3 (rs_K h1) (rs_N h1) _ _ _ _ b5
    have hpo := po_ok _ _ _ _ SF b5 (by unfold SF; omega)
    have g31 : mX4_at (k + 31) I1 (nI i) = some (nI e.2.2.1) := by
      rw [rs_g hR1 (by unfold rowA; omega) (by omega), a2]
      unfold gI
      rw [List.getD_eq_getElem?_getD, List.getElem?_map, f1]; rfl
    have hK := rs_K h1
    have g8 : mX4_at (k + 8) I1 (nI e.2.2.1) = some (nI e.2.2.2) := by
      rw [rs_g hR1 (by unfold rowA; omega) (by omega), hpp]
    rw [f4, if_neg (nIm (by omega)), g31, sb, g8, sb, f3, sb, if_neg (nIm (by omega)), hpo, sb]
    rcases jcount hC hR1 (cr_9 k4) (cf_FX k6) (by rw [k6 _ _ (by omega)]; exact h11) h10 h e.2.2.2 (by omega) with ⟨g1, g2, g3⟩ | ⟨I', B', g1, g2, g3⟩
    · have hCx : CR I (a_u2 (a_u2 B 186 34 (nI (c + e.2.2.2))) 186 36 (nI e.2.1)) J bs t r := CR_B hC (fun i _ _ => by rw [a_u2_n _ _ (by omega), a_u2_n _ _ (by omega)]) (funext fun i => by rw [a_u2_n _ _ (by omega), a_u2_n _ _ (by omega)]) rfl
      obtain ⟨u2, r2, I2, B2, J2, y1, y2, y3, y4, y5, y6, y7⟩ := jadv hCx (by omega)
      have : I2 = I1 := Option.some.inj (y2.symm.trans k2)
      subst this
      have : u2 = u ∧ r2 = r' := by rw [k1] at y1; cases y1; exact ⟨rfl, rfl⟩
      obtain ⟨rfl, rfl⟩ := this
      have hH := ts_cur (ts_ty (ts_sc H0 g1) (nI e.2.1)) (I' := a_u2 I2 142 4 (nI (c + e.2.2.2))) (B' := B2) (J' := J2) (P' := u2.2.2) (fun b i z => by
        by_cases zz : b = 142 ∧ i = 4
        · rw [zz.1, zz.2, a_u2_s, a_u2_s]
        · rw [a_u2_n _ _ zz, a_u2_n _ _ zz]; exact k6 b i z) y7 (by omega)
      have r1 : rT h md B J (a_u2 (a_u2 B 186 34 (nI (c + e.2.2.2))) 186 36 (nI e.2.1)) J := ⟨fun b i q1 q2 => by rw [a_u2_n _ _ (by omega), a_u2_n _ _ (by omega)], fun _ _ _ _ => rfl⟩
      have hrT := r1.trans (rf_rT (h := h) (md := md) y7) (Nat.le_refl _)
      refine ⟨nI e.2.2.1, a_u2 I2 142 4 (nI (c + e.2.2.2)), 1, B2, J2, by rw [g2, sb, sb], by rw [g3, sb, if_neg i10, y3, sb], Or.inr ⟨rfl, e.2.1, e.2.2.1, e.2.2.2, rfl, L, u2, r2, md, ?_, hH, EXT.rfl, ?_, ?_, Nat.le_refl _, by omega, by omega, by omega, by omega, (cf_cT k6).trans (sc_cT 4 _), hrT⟩⟩
      · exact CR_I y4 (a_u2_r _ _ (by decide)) (a_u2_r _ _ (by decide)) (a_u2_r _ _ (by decide)) (a_u2_r _ _ (by decide))
      · exact tr_to h3 TE.rfl (fun v hv => ⟨hrT.1 _ _ (by omega) (by omega), hrT.1 _ _ (by omega) (by omega), hrT.1 _ _ (by omega) (by omega), hrT.1 _ _ (by omega) (by omega), hrT.2 _ _ (by omega) (by omega)⟩) (fun v hv => Or.inl hv) _ _ _ _ _ (Nat.le_refl _) b5
      · rw [y7.1 _ _ (by omega), a_u2_s]
    · exact ⟨nI e.2.2.1, I', 0, B', J, by rw [g1, sb, sb], by rw [g2, sb, if_pos rfl], Or.inl ⟨rfl, g3⟩⟩
  · obtain ⟨I2, B2, a1, a2, a3⟩ := jbad2 hC hR1 (cr_9 k4) (cf_FX k6) h (f := 2) (by decide) (nI t.2.2)
    exact ⟨-1, I2, 0, B2, J, by rw [f2, if_pos rfl, a1, sb, sb], by rw [f1, sb, if_pos rfl, a2, sb, if_pos (Or.inl rfl)], Or.inl ⟨rfl, a3⟩⟩
end
