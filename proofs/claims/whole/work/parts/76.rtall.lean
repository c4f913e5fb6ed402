/-! A TYPE IS READ, in both (pure): talks and choices -/
section
variable {k h M : Nat} {W : List Ent} {F : fT} {I B : iT} {J : jT} {L : lT} {bs : List Nat} {t : Tok} {r : List Tok} {P c md op : Nat}
theorem rt_ref (R' : sc_12choiceT) (hC : CR I B J bs t r) (n1 : t.1 ≠ 302) (n2 : t.1 ≠ 256) : bX12_readType R' B J = mX12_readType_175 R' B J (if t.1 = 33 then 2 else if t.1 = 63 then 3 else if t.1 = 62 then 4 else if t.1 = 60 then 5 else if t.1 = 43 then 6 else if t.1 = 38 then 7 else -1) := by
  have e1 : B 186 3 = 102 ↔ t.1 = 302 := cr_r hC 302 (by decide)
  have e2 : B 186 3 = 2 ↔ t.1 = 256 := cr_r hC 256 (by decide)
  have s33 : mX12_isSign B 33 = some (if t.1 = 33 then 1 else 0) := cr_sign hC 33 (by decide)
  have s63 : mX12_isSign B 63 = some (if t.1 = 63 then 1 else 0) := cr_sign hC 63 (by decide)
  have s62 : mX12_isSign B 62 = some (if t.1 = 62 then 1 else 0) := cr_sign hC 62 (by decide)
  have s60 : mX12_isSign B 60 = some (if t.1 = 60 then 1 else 0) := cr_sign hC 60 (by decide)
  have s43 : mX12_isSign B 43 = some (if t.1 = 43 then 1 else 0) := cr_sign hC 43 (by decide)
  have s38 : mX12_isSign B 38 = some (if t.1 = 38 then 1 else 0) := cr_sign hC 38 (by decide)
  unfold bX12_readType
  rw [if_neg (fun z => n1 (e1.mp z)), if_neg (fun z => n2 (e2.mp z)), s33, sb]
  by_cases q1 : t.1 = 33
  · rw [if_pos q1, if_pos q1, if_neg i10]
  rw [if_neg q1, if_neg q1, if_pos rfl, s63, sb]
  by_cases q2 : t.1 = 63
  · rw [if_pos q2, if_pos q2, if_neg i10]
  rw [if_neg q2, if_neg q2, if_pos rfl, s62, sb]
  by_cases q3 : t.1 = 62
  · rw [if_pos q3, if_pos q3, if_neg i10]
  rw [if_neg q3, if_neg q3, if_pos rfl, s60, sb]
  by_cases q4 : t.1 = 60
  · rw [if_pos q4, if_pos q4, if_neg i10]
  rw [if_neg q4, if_neg q4, if_pos rfl, s43, sb]
  by_cases q5 : t.1 = 43
  · rw [if_pos q5, if_pos q5, if_neg i10]
  rw [if_neg q5, if_neg q5, if_pos rfl, s38, sb]
  by_cases q6 : t.1 = 38
  · rw [if_pos q6, if_pos q6, if_neg i10]
  rw [if_neg q6, if_neg q6, if_pos rfl]
/-- nothing that begins a type -/
theorem rt_bad (R : sc_9readChoiceT) (R' : sc_12choiceT) (hC : CR I B J bs t r) (hR : RS I k L) (n1 : t.1 ≠ 302) (n2 : t.1 ≠ 256) (n3 : ¬ (t.1 = 33 ∨ t.1 = 63 ∨ t.1 = 62 ∨ t.1 = 60 ∨ t.1 = 43 ∨ t.1 = 38)) : TO k h M W F I B J L bs P c md op (bX9_readType R I F (nI op)) (bX12_readType R' B J) := by
  have c1 : I 6 6 = 302 ↔ t.1 = 302 := cr_c hC 302 (by omega)
  have c2 : I 6 6 = 256 ↔ t.1 = 256 := cr_c hC 256 (by omega)
  obtain ⟨I1, B1, a1, a2, a3, _⟩ := jbad hC hR h (f := 1) (by decide) (nI t.2.2)
  have e0 : bX9_readType R I F (nI op) = mX9_readType_49 R I1 F (nI op) (I 6 6) := by
    unfold bX9_readType
    rw [if_neg (fun z => n2 (c2.mp z)), if_neg (fun z => n1 (c1.mp z)), hC.1.2.1, isTalk_ok (cr_wf hC).1, if_neg n3, sb, if_pos rfl, cr_8 hC, a1, sb]
  obtain ⟨x, I2, d1, d2⟩ := fmo_FAIL a3 (o := mX9_readType_49 R I1 F (nI op) (I 6 6)) (fun f p hf => fm_49 R hf _ _)
  refine ⟨x, I2, 0, B1, J, by rw [e0]; exact d1, ?_, Or.inl ⟨rfl, d2⟩⟩
  rw [rt_ref R' hC n1 n2, if_neg (fun z => n3 (by simp [z])), if_neg (fun z => n3 (by simp [z])), if_neg (fun z => n3 (by simp [z])), if_neg (fun z => n3 (by simp [z])), if_neg (fun z => n3 (by simp [z])), if_neg (fun z => n3 (by simp [z]))]
  unfold mX12_readType_175
  rw [if_pos rfl, cr_4 hC, a2, sb, if_pos (Or.inl rfl)]
def kw6 (kd w : Nat) : Prop := (kd = 33 ∧ w = 2) ∨ (kd = 63 ∧ w = 3) ∨ (kd = 62 ∧ w = 4) ∨ (kd = 60 ∧ w = 5) ∨ (kd = 43 ∧ w = 6) ∨ (kd = 38 ∧ w = 7)
/-- a sign that begins a type: both go behind it -/
theorem rt_head (R : sc_9readChoiceT) (R' : sc_12choiceT) (hC : CR I B J bs t r) (H : TS k h M W F I B J L t.2.2 c md op) {kd w : Nat} (hkw : kw6 kd w) (q : t.1 = kd) :
    (∃ x I' B' J', bX9_readType R I F (nI op) = some (x, I') ∧ bX12_readType R' B J = some (0, B', J') ∧ FAIL k h I B J I' B' J') ∨
    (op < 12 ∧ ∃ u r' I2 B2 J2, CR I2 B2 J2 bs u r' ∧ TS k h M W F I2 B2 J2 L u.2.2 (c + 1) md (op + 1) ∧ t.2.2 + 1 ≤ u.2.2 ∧ cT k I I2 ∧ rT h md B J B2 J2 ∧
      bX9_readType R I F (nI op) = ((mX10_isChoice (nI kd)).bind fun q4 => if q4 = 0 then (R.2.1 I2 F (nI kd) (nI (op + 1))).bind fun q5 => some (q5.1, q5.2) else (R.1 I2 F (nI kd) (nI (op + 1))).bind fun q6 => some (q6.1, q6.2)) ∧
      bX12_readType R' B J = if nI w = 6 then mX12_readType_246 R' B2 J2 (nI w) else if nI w = 7 then mX12_readType_246 R' B2 J2 (nI w) else (R'.2 B2 J2).bind fun q7 => if q7.1 = 0 then some (0, q7.2.1, q7.2.2) else if nI w = 4 then mX12_readType_280 R' q7.2.1 q7.2.2 (nI w) (q7.2.1 186 36) else if nI w = 5 then mX12_readType_280 R' q7.2.1 q7.2.2 (nI w) (q7.2.1 186 36) else (mX12_node q7.2.1 q7.2.2 (nI w) (q7.2.1 186 36) (-1) 0).bind fun q8 => mX12_readType_328 R' (a_u2 q8.2.1 186 36 q8.1) q8.2.2 (nI w)) := by
  have hP := cr_end hC
  have H0 := H
  obtain ⟨h1, h2, h3, h4, ⟨h5, h6, h7, h8, h9⟩, ⟨h10, h11, h12⟩, ⟨h13, h14, h15, h16⟩, h17, h18, h19⟩ := H
  have hk := h1.1
  have hkd : kd < 256 ∧ kd ≠ 302 ∧ kd ≠ 256 ∧ (kd = 33 ∨ kd = 63 ∨ kd = 62 ∨ kd = 60 ∨ kd = 43 ∨ kd = 38) ∧ 2 ≤ w ∧ w ≤ 7 ∧ (if kd = 33 then 2 else if kd = 63 then 3 else if kd = 62 then 4 else if kd = 60 then 5 else if kd = 43 then 6 else if kd = 38 then 7 else -1) = nI w := by
    unfold kw6 at hkw
    rcases hkw with ⟨rfl, rfl⟩ | ⟨rfl, rfl⟩ | ⟨rfl, rfl⟩ | ⟨rfl, rfl⟩ | ⟨rfl, rfl⟩ | ⟨rfl, rfl⟩ <;> decide
  obtain ⟨d1, d2, d3, d4, d5, d6, d7⟩ := hkd
  have c1 : I 6 6 = 302 ↔ t.1 = 302 := cr_c hC 302 (by omega)
  have c2 : I 6 6 = 256 ↔ t.1 = 256 := cr_c hC 256 (by omega)
  have ck : I 6 6 = nI kd := by rw [hC.1.2.1, q]
  have x302 : ¬ nI kd = 302 := fun z => d2 ((nI_eq (a := kd) (b := 302) (by omega) (by omega)).mp z)
  have e0 : bX9_readType R I F (nI op) = mX9_readType_49 R I F (nI op) (nI kd) := by
    unfold bX9_readType
    rw [if_neg (fun z => d3 (by rw [← q]; exact c2.mp z)), if_neg (fun z => d2 (by rw [← q]; exact c1.mp z)), ck, isTalk_ok (by omega), if_pos d4, sb, if_neg i10]
  have e1 : bX12_readType R' B J = mX12_readType_175 R' B J (nI w) := by
    rw [rt_ref R' hC (by omega) (by omega), q, d7]
  have nw : ¬ nI w = -1 := nIm (by omega)
  rw [e0, e1]
  unfold mX9_readType_49 mX12_readType_175
  rw [if_neg x302, if_neg nw, h13]
  rcases Nat.lt_or_ge op 12 with ho | ho
  · have o1 : nI op < 12 := nI_lt (b := 12) ho (by omega)
    have o2 : ¬ nI op = 12 := fun z => by have := (nI_eq (a := op) (b := 12) (by omega) (by omega)).mp z; omega
    rw [if_pos o1, if_neg o2]
    unfold mX9_readType_77
    rw [cr_8 hC]
    rcases jcount hC h1 (cr_9 hC) FX.rfl h11 h10 h 1 (by omega) with ⟨g1, g2, g3⟩ | ⟨I', B', g1, g2, g3⟩
    · right
      have g2' : mX9_countParts I 1 (nI t.2.2) = some (a_u2 I 142 4 (nI (c + 1))) := g2
      have g3' : mX12_more B 1 = some (1, a_u2 B 186 34 (nI (c + 1))) := g3
      have e35 : (a_u2 B 186 34 (nI (c + 1))) 186 35 + 1 = nI (op + 1) := by rw [a_u2_n _ _ (by decide), h13, nI_1]
      have hC1 : CR (a_u2 I 142 4 (nI (c + 1))) (a_u2 (a_u2 B 186 34 (nI (c + 1))) 186 35 (nI (op + 1))) J bs t r := CR_B (CR_I hC (a_u2_r _ _ (by decide)) (a_u2_r _ _ (by decide)) (a_u2_r _ _ (by decide)) (a_u2_r _ _ (by decide))) (fun i _ _ => by rw [a_u2_n _ _ (by omega), a_u2_n _ _ (by omega)]) (funext fun i => by rw [a_u2_n _ _ (by omega), a_u2_n _ _ (by omega)]) rfl
      obtain ⟨u, r', I2, B2, J2, k1, k2, k3, k4, k5, k6, k7⟩ := jadv hC1 (by omega)
      have htl : 1 ≤ tl t.1 := by
        have : tl kd = 1 := by unfold tl; rw [if_neg (by omega), if_pos (by omega)]
        rw [q, this]; exact Nat.le_refl _
      have r1 : rT h md B J (a_u2 (a_u2 B 186 34 (nI (c + 1))) 186 35 (nI (op + 1))) J := ⟨fun b i q1 q2 => by rw [a_u2_n _ _ (by omega), a_u2_n _ _ (by omega)], fun _ _ _ _ => rfl⟩
      refine ⟨ho, u, r', I2, B2, J2, k4, ts_cur (ts_op (ts_sc H0 g1) (by omega) (by omega)) k6 k7 (by omega), by omega, (sc_cT 4 _).trans (cf_cT k6), r1.trans (rf_rT k7) (Nat.le_refl _), ?_, ?_⟩
      · rw [g2', sb, k2, sb, cr_failed k4, sb, if_pos rfl, if_neg x302, nI_1]
      · rw [g3', sb, if_neg i10, e35, k3, sb]
    · left
      have g1' : mX9_countParts I 1 (nI t.2.2) = some I' := g1
      have g2' : mX12_more B 1 = some (0, B') := g2
      obtain ⟨x, I2, a1, a2⟩ := fmo_FAIL g3 (o := (mX2_advance I').bind fun q2 => (mX2_failed q2).bind fun q3 => if q3 = 0 then if nI kd = 302 then (mX10_make ((F 142 3) + 1) q2 302 (-1) (-1)).bind fun q7 => some (q7.1, q7.2) else (mX10_isChoice (nI kd)).bind fun q4 => if q4 = 0 then (R.2.1 q2 F (nI kd) (nI op + 1)).bind fun q5 => some (q5.1, q5.2) else (R.1 q2 F (nI kd) (nI op + 1)).bind fun q6 => some (q6.1, q6.2) else some (-1, q2)) (fun f p hf => by
        rw [fm_adv hf, sb, fm_failed hf, sb, if_neg i10]
        exact fmo_ret hf _)
      exact ⟨x, I2, B', J, by rw [g1', sb]; exact a1, by rw [g2', sb, if_pos rfl], a2⟩
  · left
    have ho12 : op = 12 := by omega
    have o1 : ¬ nI op < 12 := by rw [ho12]; decide
    have o2 : nI op = 12 := by rw [ho12]; rfl
    obtain ⟨I1, B1, a1, a2, a3, _⟩ := jbad hC h1 h (f := 5) (by decide) (nI t.2.2)
    obtain ⟨x, I2, b1, b2⟩ := fmo_FAIL a3 (o := mX9_readType_77 R I1 F (nI op) (nI kd)) (fun f p hf => fm_77 R hf _ _)
    exact ⟨x, I2, B1, J, by rw [if_neg o1, cr_8 hC, a1, sb]; exact b1, by rw [if_pos o2, cr_4 hC, a2, sb, if_pos (Or.inl rfl)], b2⟩
/-- behind a child: both make the T -/
theorem rt_make {kd w : Nat} {I2 B2 : iT} {J2 : jT} {L2 : lT} {c2 md2 : Nat} (hkw : kw6 kd w) (hkn : ¬ ch (nI kd)) (hC : CR I2 B2 J2 bs t r) (H : TS k h M W F I2 B2 J2 L2 t.2.2 c2 md2 (op + 1)) {x2 : Int32} {x3 : Nat} (h2 : x2 = -1 ∨ ∃ j, j < (L2 (k + 2)).length ∧ x2 = nI j) (h3 : x3 < (L2 (k + 2)).length) (y1 y2 : Int32) (R' : sc_12choiceT) (hm1 : (L2 (k + 2)).length + 1 ≤ t.2.2) (hm2 : md2 + 1 ≤ t.2.2) (hd : (L2 143).length ≤ 6 * op) :
    ∃ tt I3 L3 B3 J3, mX10_make (k + 1) I2 (nI kd) x2 (nI x3) = some (nI tt, I3) ∧ ((mX12_node B2 J2 (nI w) y1 y2 0).bind fun q8 => mX12_readType_328 R' (a_u2 q8.2.1 186 36 q8.1) q8.2.2 (nI w)) = some (1, B3, J3) ∧ CR I3 B3 J3 bs t r ∧ TS k h M W F I3 B3 J3 L3 t.2.2 c2 (md2 + 1) op ∧ EXT k L2 L3 ∧ tt < (L3 (k + 2)).length ∧ (L3 (k + 2)).length ≤ (L2 (k + 2)).length + 1 ∧ L3 (k + 10) = L2 (k + 10) ∧ gI (L3 (k + 2)) tt = nI kd ∧ gI (L3 (k + 4)) tt = x2 ∧ gI (L3 (k + 6)) tt = nI x3 ∧ B3 188 (1400 * h + md2) = nI w ∧ B3 189 (1400 * h + md2) = y1 ∧ B3 190 (1400 * h + md2) = y2 ∧ J3 192 (1400 * h + md2) = 0 ∧ B3 186 36 = nI (1400 * h + md2) ∧ cT k I2 I3 ∧ rT h md2 B2 J2 B3 J3 := by
  have hP := cr_end hC
  obtain ⟨tt, I3, L3, m1, m2, m3, m4, m5, m6, m7, m8, m9, m10, m11⟩ := make_ok H.1 H.2.2.1 (by omega) hkn h2 (Or.inr ⟨x3, h3, rfl⟩)
  have hk := H.1.1
  obtain ⟨B3, J3, n1, n2, n3, n4, n5, n6, n7, n8, n9⟩ := ts_node H (by omega) (nI w) y1 y2 0
  have e35 : (a_u2 B3 186 36 (nI (1400 * h + md2))) 186 35 - 1 = nI op := by
    rw [a_u2_n _ _ (by decide), n8 _ _ (by omega) (by omega), H.2.2.2.2.2.2.1.1, nI_pred]
  have sc : ∀ b i, ¬ (b = 186 ∧ (i = 35 ∨ i = 36)) → (a_u2 (a_u2 B3 186 36 (nI (1400 * h + md2))) 186 35 (nI op)) b i = B3 b i := fun b i q => by rw [a_u2_n _ _ (by omega), a_u2_n _ _ (by omega)]
  refine ⟨tt, I3, L3, a_u2 (a_u2 B3 186 36 (nI (1400 * h + md2))) 186 35 (nI op), J3, m1, ?_, ?_, ?_, m4, m5, m6, m7, m8, m9, m10, ?_, ?_, ?_, n6, ?_, fun b q1 q2 q3 q4 => m11 b q3, ?_⟩
  · rw [n1, sb]
    unfold mX12_readType_328
    show some (1, a_u2 (a_u2 B3 186 36 (nI (1400 * h + md2))) 186 35 ((a_u2 B3 186 36 (nI (1400 * h + md2))) 186 35 - 1), J3) = _
    rw [e35]
  · exact CR_B (CR_I hC (m11 6 (by omega)) (m11 9 (by omega)) (m11 10 (by omega)) (m11 11 (by omega))) (fun i _ _ => by rw [sc _ _ (by omega), n8 _ _ (by omega) (by omega)]) (funext fun i => by rw [sc _ _ (by omega), n8 _ _ (by omega) (by omega)]) (n9 _ _ (by omega))
  · obtain ⟨i1, i2, i3, i4, ⟨i5, i6, i7, i8, i9⟩, ⟨j1, j2, j3⟩, ⟨j4, j5, j6, j7⟩, j8, j9, j10⟩ := n2 (t.2.2 + 1) (by omega)
    refine ⟨m2, i2, m3, nt_to i4 i3 m4.1 (m4.2 _ (by omega)) (m4.2 _ (by omega)) (fun v _ _ => ⟨sc _ _ (by omega), sc _ _ (by omega), sc _ _ (by omega), sc _ _ (by omega), rfl⟩) (sc _ _ (by omega)) (fun _ => rfl) (fun _ => sc _ _ (by omega)), ⟨i5, by rw [sc _ _ (by omega)]; exact i6, by rw [sc _ _ (by omega)]; exact i7, by rw [sc _ _ (by omega)]; exact i8, i9⟩, ⟨by rw [sc _ _ (by omega)]; exact j1, by rw [m11 142 (by omega)]; exact j2, j3⟩, ⟨a_u2_s _ _ _ _, by omega, by rw [m4.2 145 (by omega), m4.2 143 (by omega)]; exact j6, by rw [m4.2 143 (by omega)]; exact hd⟩, by omega, by rw [m7]; exact H.2.2.2.2.2.2.2.2.1, by omega⟩
  · rw [sc _ _ (by omega)]; exact n3
  · rw [sc _ _ (by omega)]; exact n4
  · rw [sc _ _ (by omega)]; exact n5
  · rw [a_u2_n _ _ (by decide), a_u2_s]
  · exact n7.trans ⟨fun b i q1 q2 => sc b i (by omega), fun _ _ _ _ => rfl⟩ (Nat.le_refl _)
end
