/-! ALL PARAMS, in both (pure) -/
/-- the reference behind the ) of the PARAMS -/
def dfX (B : iT) (J : jT) (x1 x2 : Int32) : Option (Int32 × iT × jT) := if inb x1 24 then (mX12_isFree (a_u2 B 198 x1.toNatClampNeg x2) J).bind fun q10 => if q10.1 = 0 then some (0, q10.2, J) else if inb x1 24 then (mX12_look0 q10.2 (a_u2 J 196 x1.toNatClampNeg (J 186 6))).bind fun q11 => (mX12_need q11.1 q11.2 58).bind fun q12 => if q12.1 = 0 then some (0, q12.2.1, q12.2.2) else (mX12_wholeType q12.2.1 q12.2.2).bind fun q13 => if q13.1 = 0 then some (0, q13.2.1, q13.2.2) else if inb x1 24 then if inb x1 24 then (mX12_newSlot (a_u2 q13.2.1 200 x1.toNatClampNeg (q13.2.1 186 36)) q13.2.2 (q13.2.2 196 x1.toNatClampNeg) 1 ((a_u2 q13.2.1 200 x1.toNatClampNeg (q13.2.1 186 36)) 186 36)).bind fun q14 => (mX12_need (a_u2 q14.2.1 186 51 q14.1) q14.2.2 61).bind fun q15 => if q15.1 = 0 then some (0, q15.2.1, q15.2.2) else (mX12_readProcess SF q15.2.1 q15.2.2).bind fun q16 => if q16.1 = 0 then some (0, q16.2.1, q16.2.2) else if inb x1 24 then if inb x1 24 then if inb ((a_u2 (a_u2 q16.2.1 201 x1.toNatClampNeg (q16.2.1 186 49)) 202 x1.toNatClampNeg ((a_u2 q16.2.1 201 x1.toNatClampNeg (q16.2.1 186 49)) 186 44)) 186 32) 2 then if inb ((a_u2 (a_u2 q16.2.1 201 x1.toNatClampNeg (q16.2.1 186 49)) 202 x1.toNatClampNeg ((a_u2 q16.2.1 201 x1.toNatClampNeg (q16.2.1 186 49)) 186 44)) 186 32) 2 then some (1, a_u2 (a_u2 (a_u2 q16.2.1 201 x1.toNatClampNeg (q16.2.1 186 49)) 202 x1.toNatClampNeg ((a_u2 q16.2.1 201 x1.toNatClampNeg (q16.2.1 186 49)) 186 44)) 205 ((a_u2 (a_u2 q16.2.1 201 x1.toNatClampNeg (q16.2.1 186 49)) 202 x1.toNatClampNeg ((a_u2 q16.2.1 201 x1.toNatClampNeg (q16.2.1 186 49)) 186 44)) 186 32).toNatClampNeg (((a_u2 (a_u2 q16.2.1 201 x1.toNatClampNeg (q16.2.1 186 49)) 202 x1.toNatClampNeg ((a_u2 q16.2.1 201 x1.toNatClampNeg (q16.2.1 186 49)) 186 44)) 205 ((a_u2 (a_u2 q16.2.1 201 x1.toNatClampNeg (q16.2.1 186 49)) 202 x1.toNatClampNeg ((a_u2 q16.2.1 201 x1.toNatClampNeg (q16.2.1 186 49)) 186 44)) 186 32).toNatClampNeg) + 1), q16.2.2) else none else none else none else none else none else none else none else none
theorem df135 (n : Nat) (B : iT) (J : jT) (x1 x2 : Int32) : mX12_defText_135 (n + 1) B J x1 x2 = (mX12_isSign B 41).bind fun q8 => if q8 = 0 then if x2 ≤ 0 then mX12_defText_159 (mX12_defText_135 n) B J x1 x2 else (mX12_need B J 44).bind fun q17 => if q17.1 = 0 then some (0, q17.2.1, q17.2.2) else mX12_defText_159 (mX12_defText_135 n) q17.2.1 q17.2.2 x1 x2 else (mX12_look0 B J).bind fun q9 => dfX q9.1 q9.2 x1 x2 := rfl
section
variable {k h nD : Nat} {W : List Ent} {F : fT} {I B : iT} {J : jT} {L : lT} {bs : List Nat} {t : Tok} {r : List Tok} {P md b d : Nat} {S : List Sl} {a6 a8 a0 : List Int32}
/-- a row that no T and no PARAM touches grows -/
theorem qs_L43 (H : QS k h nD W F I B J L P md S a6 a8 a0 b) {I' : iT} {l : List Int32} (hR : RS I' k (upL L (k + 43) l)) (hI : fr1 (k + 43) I I') : QS k h nD W F I' B J (upL L (k + 43) l) P md S a6 a8 a0 b := by
  obtain ⟨⟨q1, q2, q3, q4, u1, ⟨u6, u7⟩, ⟨u8, u9, u10⟩⟩, h2, h3, h4, h5, h6, h7, h8⟩ := H
  have hk0 := q1.1
  have fL : ∀ a, a ≠ k + 43 → (upL L (k + 43) l) a = L a := fun a w => upL_n _ _ w
  have hTE : TE k L (upL L (k + 43) l) := TE_eq (fun a w1 w2 => fL a (by omega))
  refine ⟨⟨hR, q2, tab_eq (fun a w1 w2 => fL a (by omega)) q3, nt_to q4 q3 hTE (fL _ (by omega)) (fL _ (by omega)) (fun v _ _ => ⟨rfl, rfl, rfl, rfl, rfl⟩) rfl (fun _ => rfl) (fun _ => rfl), u1, ⟨by rw [fL _ (by omega)]; exact u6, by rw [fL _ (by omega)]; exact u7⟩, ⟨by rw [fL _ (by omega)]; exact u8, by rw [fL _ (by omega)]; exact u9, u10⟩⟩, h2, qr_to h3 q3 hTE (fun c w1 w2 => hI c (by omega) (by omega)) rfl (fun _ => rfl) (fun _ => rfl) (fun _ => rfl) (fun _ _ _ => ⟨rfl, rfl, rfl, rfl, rfl⟩) (Nat.le_refl _), h4, by rw [fL _ (by omega)]; exact h5, h6, fun i s hs => by rw [fL _ (by omega)]; exact h7 i s hs, fun i w1 w2 => by rw [fL _ (by omega)]; exact h8 i w1 w2⟩
/-- what PARAMS that were read leave -/
def PMok (k h nD : Nat) (W : List Ent) (F : fT) (I B : iT) (J : jT) (L : lT) (bs : List Nat) (P md b : Nat) (S : List Sl) (oc : Option iT) (or : Option (Int32 × iT × jT)) : Prop :=
  ∃ (S' : List Sl) (I' B' : iT) (J' : jT) (L' : lT) (t' : Tok) (r' : List Tok) (md' : Nat) (a6' a8' a0' : List Int32), oc = some I' ∧ or = dfX B' J' (nI (12 * h + nD)) (nI S'.length) ∧ CR I' B' J' bs t' r' ∧ QS k h nD W F I' B' J' L' t'.2.2 md' S' a6' a8' a0' b ∧ HF k h (12 * h + nD) md I B J L I' B' J' L' ∧ L' (k + 43) = L (k + 43) ++ [nI S'.length] ∧ md ≤ md' ∧ S.length ≤ S'.length ∧ I' 134 = I 134 ∧ (S.length ≠ 0 → B' 203 (12 * h + nD) = B 203 (12 * h + nD)) ∧ P ≤ t'.2.2
/-- the ) of the PARAMS -/
theorem pm_end0 (hC : CR I B J bs t r) (H : QS k h nD W F I B J L t.2.2 md S a6 a8 a0 b) (h43 : (L (k + 43)).length < 12) (q : t.1 = 41) (x1 x3 : Int32) : ∃ I' B' J' t' r', mX3_readParams_205 I F x1 (nI S.length) x3 = some I' ∧ ((mX12_look0 B J).bind fun q9 => dfX q9.1 q9.2 (nI (12 * h + nD)) (nI S.length)) = dfX B' J' (nI (12 * h + nD)) (nI S.length) ∧ CR I' B' J' bs t' r' ∧ QS k h nD W F I' B' J' (upL L (k + 43) (L (k + 43) ++ [nI S.length])) t'.2.2 md S a6 a8 a0 b ∧ HF k h (12 * h + nD) md I B J L I' B' J' (upL L (k + 43) (L (k + 43) ++ [nI S.length])) ∧ I' 134 = I 134 ∧ B' 203 (12 * h + nD) = B 203 (12 * h + nD) ∧ t.2.2 ≤ t'.2.2 := by
  have hk0 := H.1.1.1
  have hF := H.2.1
  obtain ⟨z1, z2, z3, z4, z5, z6, z7, z8, z9⟩ := lenW hk0
  have c41 : I 6 6 = 41 ↔ t.1 = 41 := cr_c hC 41 (by omega)
  have htl : tl t.1 = 1 := by rw [q]; decide
  obtain ⟨u1, r2, I1, B1, J1, l1, l2, l3, l4, l5, l6, l7⟩ := jadv hC (by omega)
  rw [htl] at l5
  have H1 := qs_cur H l6 l7 (P' := u1.2.2) (by omega)
  obtain ⟨I2, a1, a2, a3⟩ := rs_add H1.1.1 (a := k + 43) (by unfold rowA; omega) (by rw [z8]; exact h43) (nI S.length)
  have H2 := qs_L43 H1 a2 a3
  refine ⟨I2, B1, J1, u1, r2, ?_, ?_, CR_I l4 (a3 _ (by omega) (by omega)) (a3 _ (by omega) (by omega)) (a3 _ (by omega) (by omega)) (a3 _ (by omega) (by omega)), H2, (hf_cur l6 l7).trans ⟨TE_eq (fun a w1 w2 => upL_n _ _ (by omega)), fun a _ w _ => upL_n _ _ w, fun c _ _ _ w => a3 c (by omega) (by omega), fun _ _ _ _ _ _ _ => rfl, fun _ _ _ _ _ _ => rfl, fun f _ => by rw [upL_n _ _ (by omega)]⟩ (Nat.le_refl _), by rw [a3 _ (by omega) (by omega)]; exact cf_b l6 (by omega), l7.1 _ _ (by omega), by omega⟩
  · unfold mX3_readParams_205 mX2_want
    rw [if_pos (c41.mpr q), l2, sb, sb, hF, a1, sb]
  · rw [l3, sb]
theorem pm_end (hC : CR I B J bs t r) (H : QS k h nD W F I B J L t.2.2 md S a6 a8 a0 b) (h43 : (L (k + 43)).length < 12) (q : t.1 = 41) (x1 x3 : Int32) : PMok k h nD W F I B J L bs t.2.2 md b S (mX3_readParams_205 I F x1 (nI S.length) x3) ((mX12_look0 B J).bind fun q9 => dfX q9.1 q9.2 (nI (12 * h + nD)) (nI S.length)) := by
  obtain ⟨I', B', J', t', r', b1, b2, b3, b4, b5, b6, b7, b8⟩ := pm_end0 hC H h43 q x1 x3
  exact ⟨S, I', B', J', _, t', r', md, a6, a8, a0, b1, b2, b3, b4, b5, by rw [upL_s], Nat.le_refl _, Nat.le_refl _, b6, fun _ => b7, b8⟩
theorem pm_loop : ∀ (e m1 m2 : Nat) (S : List Sl) (I B : iT) (J : jT) (L : lT) (t : Tok) (r : List Tok) (md : Nat) (a6 a8 a0 : List Int32) (x3 : Nat), S.length + e = 4 → S.length = x3 + 1 → CR I B J bs t r → QS k h nD W F I B J L t.2.2 md S a6 a8 a0 b → (L (k + 43)).length < 12 →
    (∃ I' B' J', pmS (mX3_readParams_78 (m1 + e + 1)) I F (nI (4 * nD)) (nI S.length) (nI x3) = some I' ∧ mX12_defText_135 (m2 + e + 1) B J (nI (12 * h + nD)) (nI S.length) = some (0, B', J') ∧ PL k h (b + 1) I B J I' B' J') ∨ PMok k h nD W F I B J L bs t.2.2 md b S (pmS (mX3_readParams_78 (m1 + e + 1)) I F (nI (4 * nD)) (nI S.length) (nI x3)) (mX12_defText_135 (m2 + e + 1) B J (nI (12 * h + nD)) (nI S.length)) := by
  intro e
  induction e with
  | zero =>
    intro m1 m2 S I B J L t r md a6 a8 a0 x3 hS hx hC H h43
    have hk0 := H.1.1.1
    have hF := H.2.1
    have hbb := H.2.2.2.1.2
    have hnD := H.2.2.2.2.2.1
    have s41 : mX12_isSign B 41 = some (if t.1 = 41 then 1 else 0) := cr_sign hC 41 (by omega)
    have c44 : I 6 6 = 44 ↔ t.1 = 44 := cr_c hC 44 (by omega)
    have c41 : I 6 6 = 41 ↔ t.1 = 41 := cr_c hC 41 (by omega)
    have hn0 : ¬ nI S.length ≤ 0 := nI_ge (a := 0) (by omega) (by omega)
    rw [df135, s41, sb]
    by_cases q : t.1 = 41
    · right
      have e1 : pmS (mX3_readParams_78 (m1 + 0 + 1)) I F (nI (4 * nD)) (nI S.length) (nI x3) = mX3_readParams_205 I F (nI (4 * nD)) (nI S.length) (nI x3) := by
        unfold pmS mX2_skip
        rw [if_neg (fun z => by have := c44.mp z; omega), sb, if_pos rfl]
      rw [e1, if_pos q, if_neg i10]
      exact pm_end hC H h43 q _ _
    · rw [if_neg q, if_pos rfl, if_neg hn0]
      rcases jneed hC H.1.1 h 44 (by omega) with ⟨w1, u1, r2, I1, B1, J1, l1, l2, l3, l4, l5, l6, l7⟩ | ⟨w1, I1, B1, l2, l3, l4⟩
      · have htl : tl t.1 = 1 := by rw [w1]; decide
        rw [htl] at l5
        have l3' : mX12_need B J 44 = some (1, B1, J1) := l3
        have l2' : mX2_advance I = some I1 := by
          have := l2
          unfold mX2_want at this
          rw [if_pos (show I 6 6 = nI 44 from c44.mpr w1)] at this
          obtain ⟨y, e, e'⟩ := bi_some this
          rw [e]
          exact e'
        have H1 := qs_cur H l6 l7 (P' := u1.2.2) (by omega)
        have e1 : pmS (mX3_readParams_78 (m1 + 0 + 1)) I F (nI (4 * nD)) (nI S.length) (nI x3) = mX3_readParams_99 (mX3_readParams_78 m1) I1 F (nI (4 * nD)) (nI S.length) (nI S.length) := by
          unfold pmS mX2_skip
          rw [if_pos (c44.mpr w1), l2', sb, sb, if_neg i10, nI_1, ← hx, mX3_readParams_78, if_neg (show ¬ (4 : Int32) < nI S.length from nI_nlt (a := 4) (by omega) (by omega)), if_pos (show (0 : Int32) < nI S.length from nI_lt (a := 0) (by omega) (by omega))]
        rw [e1, l3', sb, if_neg i10]
        rcases pm_one (K := mX3_readParams_78 m1) (K' := mX12_defText_135 (m2 + 0)) l4 H1 with ⟨I', B', J', a1, a2, a3⟩ | ⟨s, I', B', J', L', t', r', md', a6', a8', a0', a1, _⟩
        · left
          exact ⟨I', B', J', a1, a2, PL.pre (cQ_FQ (cf_cQ l6)) (rf_RX l7) a3⟩
        · omega
      · left
        have l3' : mX12_need B J 44 = some (0, B1, J) := l3
        have hwant : mX2_want I 41 = some I1 := by
          unfold mX2_want at l2 ⊢
          rw [if_neg (show ¬ I 6 6 = nI 44 from fun z => w1 (c44.mp z))] at l2
          rw [if_neg (fun z => q (c41.mp z))]
          exact l2
        obtain ⟨I', d1, d2⟩ := pfu_PL ((fail_PL l4 (qs_scp H) (by omega)).mono (Nat.le_succ b) (by omega)) (c' := b + 1) (o := (mX4_add (k + 43) I1 (nI S.length)).bind fun q2 => some q2.2) (fun f p hf => pfu_o (pf_addB hf (by unfold rowB; omega) _) (fun x I2 h2 => pfu_ret h2))
        refine ⟨I', B1, J, ?_, by rw [l3', sb, if_pos rfl], d2⟩
        unfold pmS mX2_skip mX3_readParams_205
        rw [if_neg (fun z => w1 (c44.mp z)), sb, if_pos rfl, hwant, sb, hF]
        exact d1
  | succ e ih =>
    intro m1 m2 S I B J L t r md a6 a8 a0 x3 hS hx hC H h43
    have hk0 := H.1.1.1
    have hF := H.2.1
    have hbb := H.2.2.2.1.2
    have hnD := H.2.2.2.2.2.1
    have s41 : mX12_isSign B 41 = some (if t.1 = 41 then 1 else 0) := cr_sign hC 41 (by omega)
    have c44 : I 6 6 = 44 ↔ t.1 = 44 := cr_c hC 44 (by omega)
    have c41 : I 6 6 = 41 ↔ t.1 = 41 := cr_c hC 41 (by omega)
    have hn0 : ¬ nI S.length ≤ 0 := nI_ge (a := 0) (by omega) (by omega)
    rw [df135, s41, sb]
    by_cases q : t.1 = 41
    · right
      have e1 : pmS (mX3_readParams_78 (m1 + (e + 1) + 1)) I F (nI (4 * nD)) (nI S.length) (nI x3) = mX3_readParams_205 I F (nI (4 * nD)) (nI S.length) (nI x3) := by
        unfold pmS mX2_skip
        rw [if_neg (fun z => by have := c44.mp z; omega), sb, if_pos rfl]
      rw [e1, if_pos q, if_neg i10]
      exact pm_end hC H h43 q _ _
    · rw [if_neg q, if_pos rfl, if_neg hn0]
      rcases jneed hC H.1.1 h 44 (by omega) with ⟨w1, u1, r2, I1, B1, J1, l1, l2, l3, l4, l5, l6, l7⟩ | ⟨w1, I1, B1, l2, l3, l4⟩
      · have htl : tl t.1 = 1 := by rw [w1]; decide
        rw [htl] at l5
        have l3' : mX12_need B J 44 = some (1, B1, J1) := l3
        have l2' : mX2_advance I = some I1 := by
          have := l2
          unfold mX2_want at this
          rw [if_pos (show I 6 6 = nI 44 from c44.mpr w1)] at this
          obtain ⟨y, e, e'⟩ := bi_some this
          rw [e]
          exact e'
        have H1 := qs_cur H l6 l7 (P' := u1.2.2) (by omega)
        have e1 : pmS (mX3_readParams_78 (m1 + (e + 1) + 1)) I F (nI (4 * nD)) (nI S.length) (nI x3) = mX3_readParams_99 (mX3_readParams_78 (m1 + e + 1)) I1 F (nI (4 * nD)) (nI S.length) (nI S.length) := by
          unfold pmS mX2_skip
          rw [if_pos (c44.mpr w1), l2', sb, sb, if_neg i10, nI_1, ← hx, mX3_readParams_78, if_neg (show ¬ (4 : Int32) < nI S.length from nI_nlt (a := 4) (by omega) (by omega)), if_pos (show (0 : Int32) < nI S.length from nI_lt (a := 0) (by omega) (by omega))]
          rfl
        rw [e1, l3', sb, if_neg i10]
        have fx : FQ k I I1 := cQ_FQ (cf_cQ l6)
        rcases pm_one (K := mX3_readParams_78 (m1 + e + 1)) (K' := mX12_defText_135 (m2 + e + 1)) l4 H1 with ⟨I', B', J', a1, a2, a3⟩ | ⟨s, I', B', J', L', t', r', md', a6', a8', a0', a1, a2, a3, a4, a5, a6b, a7, a8b, a9, a10, a11, a12, a13⟩
        · left
          exact ⟨I', B', J', a1, a2, PL.pre fx (rf_RX l7) a3⟩
        · have hlen : (S ++ [s]).length = S.length + 1 := by rw [List.length_append]; rfl
          have e43 : L' (k + 43) = L (k + 43) := a13
          rw [a2]
          show (∃ I' B' J', _ ∧ mX12_defText_159 (mX12_defText_135 (m2 + e + 1)) B1 J1 (nI (12 * h + nD)) (nI S.length) = some (0, B', J') ∧ _) ∨ PMok k h nD W F I B J L bs t.2.2 md b S _ (mX12_defText_159 (mX12_defText_135 (m2 + e + 1)) B1 J1 (nI (12 * h + nD)) (nI S.length))
          rw [a3]
          have hih := ih m1 m2 (S ++ [s]) I' B' J' L' t' r' md' a6' a8' a0' S.length (by omega) hlen a4 a5 (by rw [e43]; exact h43)
          rw [hlen] at hih
          have hf1 : HF k h (12 * h + nD) md I B J L I' B' J' L' := (hf_cur l6 l7).trans a6b (Nat.le_refl _)
          rcases hih with ⟨I2, B2, J2, b1, b2, b3⟩ | ⟨S2, I2, B2, J2, L2, t2, r2, md2, c6, c8, c0, b1, b2, b3, b4, b5, b6, b7, b8, b9, b10, b11⟩
          · exact Or.inl ⟨I2, B2, J2, b1, b2, PL.pre (hf_FQ hf1) (hf_RX hf1 hnD) b3⟩
          · exact Or.inr ⟨S2, I2, B2, J2, L2, t2, r2, md2, c6, c8, c0, b1, b2, b3, b4, hf1.trans b5 a7, by rw [b6, e43], by omega, by omega, by rw [b9, a9]; exact cf_b l6 (by omega), fun w => by rw [b10 (by omega), a11 w]; exact l7.1 _ _ (by omega), by omega⟩
      · left
        have l3' : mX12_need B J 44 = some (0, B1, J) := l3
        have hwant : mX2_want I 41 = some I1 := by
          unfold mX2_want at l2 ⊢
          rw [if_neg (show ¬ I 6 6 = nI 44 from fun z => w1 (c44.mp z))] at l2
          rw [if_neg (fun z => q (c41.mp z))]
          exact l2
        obtain ⟨I', d1, d2⟩ := pfu_PL ((fail_PL l4 (qs_scp H) (by omega)).mono (Nat.le_succ b) (by omega)) (c' := b + 1) (o := (mX4_add (k + 43) I1 (nI S.length)).bind fun q2 => some q2.2) (fun f p hf => pfu_o (pf_addB hf (by unfold rowB; omega) _) (fun x I2 h2 => pfu_ret h2))
        refine ⟨I', B1, J, ?_, by rw [l3', sb, if_pos rfl], d2⟩
        unfold pmS mX2_skip mX3_readParams_205
        rw [if_neg (fun z => w1 (c44.mp z)), sb, if_pos rfl, hwant, sb, hF]
        exact d1
/-- all PARAMS, from the token behind ( -/
theorem pm_all {e0 : Nat} (hC : CR I B J bs t r) (H : QS k h nD W F I B J L t.2.2 md [] a6 a8 a0 b) (h43 : (L (k + 43)).length < 12) (he : LF = e0 + 6) :
    (∃ I' B' J', mX3_readParams_76 I F (nI (4 * nD)) 0 = some I' ∧ mX12_defText_135 LF B J (nI (12 * h + nD)) 0 = some (0, B', J') ∧ PL k h (b + 1) I B J I' B' J') ∨
    (∃ (S' : List Sl) (I' B' : iT) (J' : jT) (L' : lT) (t' : Tok) (r' : List Tok) (md' : Nat) (a6' a8' a0' : List Int32), mX3_readParams_76 I F (nI (4 * nD)) 0 = some I' ∧ mX12_defText_135 LF B J (nI (12 * h + nD)) 0 = dfX B' J' (nI (12 * h + nD)) (nI S'.length) ∧ CR I' B' J' bs t' r' ∧ QS k h nD W F I' B' J' L' t'.2.2 md' S' a6' a8' a0' b ∧ HF k h (12 * h + nD) md I B J L I' B' J' L' ∧ L' (k + 43) = L (k + 43) ++ [nI S'.length] ∧ md ≤ md' ∧ I' 134 = I 134 ∧ (S'.length = 0 → t.1 ≠ 256) ∧ (S'.length ≠ 0 → t.1 = 256 ∧ B' 203 (12 * h + nD) = nI t.2.2) ∧ t.2.2 ≤ t'.2.2) := by
  have hk0 := H.1.1.1
  have hF := H.2.1
  have hbb := H.2.2.2.1.2
  have hnD := H.2.2.2.2.2.1
  have s41 : mX12_isSign B 41 = some (if t.1 = 41 then 1 else 0) := cr_sign hC 41 (by omega)
  have i41 : mX2_is I 41 = some (if t.1 = 41 then 1 else 0) := cr_is hC 41 (by omega)
  have eC : mX3_readParams_76 I F (nI (4 * nD)) 0 = if t.1 = 41 then mX3_readParams_205 I F (nI (4 * nD)) 0 0 else mX3_readParams_99 (mX3_readParams_78 (e0 + 5)) I F (nI (4 * nD)) 0 0 := by
    unfold mX3_readParams_76
    rw [he, mX3_readParams_78, if_neg (by decide), if_neg (by decide), i41, sb]
    by_cases q : t.1 = 41
    · rw [if_pos q, if_neg i10, if_pos q]
    · rw [if_neg q, if_pos rfl, if_neg q]
  have eR : mX12_defText_135 LF B J (nI (12 * h + nD)) 0 = if t.1 = 41 then (mX12_look0 B J).bind fun q9 => dfX q9.1 q9.2 (nI (12 * h + nD)) 0 else mX12_defText_159 (mX12_defText_135 (e0 + 5)) B J (nI (12 * h + nD)) 0 := by
    rw [he, df135, s41, sb]
    by_cases q : t.1 = 41
    · rw [if_pos q, if_neg i10, if_pos q]
    · rw [if_neg q, if_pos rfl, if_pos (by decide), if_neg q]
  rw [eC, eR]
  by_cases q : t.1 = 41
  · right
    rw [if_pos q, if_pos q]
    obtain ⟨I', B', J', t', r', b1, b2, b3, b4, b5, b6, b7, b8⟩ := pm_end0 hC H h43 q (nI (4 * nD)) 0
    exact ⟨[], I', B', J', _, t', r', md, a6, a8, a0, b1, b2, b3, b4, b5, by rw [upL_s], Nat.le_refl _, b6, fun _ => by omega, fun w => absurd rfl w, b8⟩
  · rw [if_neg q, if_neg q]
    rcases pm_one (K := mX3_readParams_78 (e0 + 5)) (K' := mX12_defText_135 (e0 + 5)) hC H with ⟨I', B', J', a1, a2, a3⟩ | ⟨s, I', B', J', L', t', r', md', a6', a8', a0', a1, a2, a3, a4, a5, a6b, a7, a8b, a9, a10, a11, a12, a13⟩
    · left
      exact ⟨I', B', J', a1, a2, a3⟩
    · have hih := pm_loop 3 (e0 + 1) (e0 + 1) ([] ++ [s]) I' B' J' L' t' r' md' a6' a8' a0' 0 rfl rfl a4 a5 (by rw [a13]; exact h43)
      have a2' : mX3_readParams_99 (mX3_readParams_78 (e0 + 5)) I F (nI (4 * nD)) 0 0 = pmS (mX3_readParams_78 (e0 + 5)) I' F (nI (4 * nD)) (nI 1) (nI 0) := a2
      have a3' : mX12_defText_159 (mX12_defText_135 (e0 + 5)) B J (nI (12 * h + nD)) 0 = mX12_defText_135 (e0 + 5) B' J' (nI (12 * h + nD)) (nI 1) := a3
      rw [a2', a3']
      rcases hih with ⟨I2, B2, J2, b1, b2, b3⟩ | ⟨S2, I2, B2, J2, L2, t2, r2, md2, c6, c8, c0, b1, b2, b3, b4, b5, b6, b7, b8, b9, b10, b11⟩
      · exact Or.inl ⟨I2, B2, J2, b1, b2, PL.pre (hf_FQ a6b) (hf_RX a6b hnD) b3⟩
      · have hl : 1 ≤ S2.length := b8
        exact Or.inr ⟨S2, I2, B2, J2, L2, t2, r2, md2, c6, c8, c0, b1, b2, b3, b4, a6b.trans b5 a7, by rw [b6, a13], by omega, by rw [b9]; exact a9, fun w => absurd w (by omega), fun _ => ⟨a12, by rw [b10 (show ([] ++ [s]).length ≠ 0 from Nat.one_ne_zero)]; exact a10 rfl⟩, by omega⟩
end
