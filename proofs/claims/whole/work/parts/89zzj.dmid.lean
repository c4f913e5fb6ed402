/-! A DEF BETWEEN ITS PARAMS AND ITS =, in both (pure) -/
section
variable {k h : Nat} {W : List Ent} {D : List Df} {F : fT} {I B : iT} {J : jT} {L : lT} {bs : List Nat} {t : Tok} {r : List Tok} {P md b : Nat} {S : List Sl} {a6 a8 a0 : List Int32}
/-- the DEFS ahead, while cells beside them change -/
theorem frd_of {L' : lT} {B' : iT} {J' : jT} (hT : tabL k L) (hS : sumL k L) (hTE : TE k L L') (hL : ∀ a, ¬ (k + 2 ≤ a ∧ a ≤ k + 12) → L' a = L a) (hA : ∀ v, (1400 * h ≤ v ∧ v < 1400 * h + md) → (B' 188 v = B 188 v ∧ B' 189 v = B 189 v ∧ B' 190 v = B 190 v ∧ B' 191 v = B 191 v ∧ J' 192 v = J 192 v)) (hB : ∀ f, f < D.length → (B' 198 (12 * h + f) = B 198 (12 * h + f) ∧ B' 200 (12 * h + f) = B 200 (12 * h + f) ∧ B' 201 (12 * h + f) = B 201 (12 * h + f) ∧ B' 202 (12 * h + f) = B 202 (12 * h + f) ∧ J' 194 (12 * h + f) = J 194 (12 * h + f) ∧ ∀ i, i < 4 → B' 199 (4 * (12 * h + f) + i) = B 199 (4 * (12 * h + f) + i))) : FRD k h D.length md L L' B B' J J' := by
  refine ⟨⟨hT, hTE, hS, fun a w1 w2 => ⟨[], by rw [hL a (by omega), List.append_nil]⟩, ⟨[], by rw [hL _ (by omega), List.append_nil]⟩, by rw [hL _ (by omega)]; exact Nat.le_refl _, by rw [hL _ (by omega)]; exact Nat.le_refl _, hA, fun κ _ => ?_, fun c _ => ?_⟩, fun f _ => ?_, fun f _ => ?_, hB⟩
  · rw [hL _ (by omega), hL _ (by omega), hL _ (by omega), hL _ (by omega)]
    exact ⟨rfl, rfl, rfl, rfl⟩
  · rw [hL _ (by omega), hL _ (by omega)]
    exact ⟨rfl, rfl⟩
  · rw [hL _ (by omega), hL _ (by omega), hL _ (by omega), hL _ (by omega), hL _ (by omega)]
    exact ⟨rfl, rfl, rfl, rfl, rfl⟩
  · rw [hL _ (by omega)]
theorem dd_frd {L' : lT} {B' : iT} {J' : jT} {md' : Nat} (H : DD k h (1400 * h + md) L B J D) (hF : FRD k h D.length md L L' B B' J J') (hm : md ≤ md') (h33 : L' (k + 33) = L (k + 33)) (h205 : B' 205 h = B 205 h) : DD k h (1400 * h + md') L' B' J' D := by
  obtain ⟨c1, c2, c3, c4⟩ := H
  obtain ⟨p1, p2, p3, p4⟩ := hF
  have hA : ∀ v, (1400 * h ≤ v ∧ v < 1400 * h + md) → (B' 188 v = B 188 v ∧ B' 189 v = B 189 v ∧ B' 190 v = B 190 v ∧ B' 191 v = B 191 v ∧ J' 192 v = J 192 v) := p1.2.2.2.2.2.2.2.1
  have tr2 : ∀ {p u t : Nat}, TR k L B J (fun v => 1400 * h ≤ v ∧ v < 1400 * h + md) p u t p → TR k L' B' J' (fun v => 1400 * h ≤ v ∧ v < 1400 * h + md') p u t p := fun z => tr_to p1.1 p1.2.1 hA (fun v hv => ⟨hv.1, by omega⟩) _ _ _ _ _ (Nat.le_refl _) z
  refine ⟨by rw [h33]; exact c1, by rw [h205]; exact c2, c3, fun f e' he => ?_⟩
  have x := lt_get he
  obtain ⟨w1, w2, w3, ⟨u', p', w4, w5, w6⟩, w7, w8, w9, w10⟩ := c4 f e' he
  obtain ⟨a1, a2, a3, a4, a5⟩ := p2 f x
  obtain ⟨b1, b2, b3, b4, b5, b6⟩ := p4 f x
  refine ⟨by rw [b5]; exact w1, w2, by rw [a1]; exact w3, ⟨u', p', by rw [b2]; exact w4, w5, tr2 w6⟩, by rw [a5]; exact w7, by rw [b1]; exact w8, w9, fun i q hq => ?_⟩
  have hi : i < e'.2.1.length := (List.getElem?_eq_some_iff.mp hq).1
  rw [p3 _ (by omega), b6 i (by omega)]
  rcases w10 i q hq with z | ⟨z1, z2, u2, p2', z3, z4, z5⟩
  · exact Or.inl z
  · exact Or.inr ⟨z1, z2, u2, p2', z3, z4, tr2 z5⟩
theorem of_to {L' : lT} {B' : iT} {J' : jT} {P' md' n : Nat} (hT : tabL k L) (H : OF k h D F B J L P md n) (hm : md ≤ md') (hP : P ≤ P') (hTE : TE k L L') (hL : ∀ a, ¬ (k + 2 ≤ a ∧ a ≤ k + 12) → L' a = L a) (hA : ∀ v, (1400 * h ≤ v ∧ v < 1400 * h + md) → (B' 188 v = B 188 v ∧ B' 189 v = B 189 v ∧ B' 190 v = B 190 v ∧ B' 191 v = B 191 v ∧ J' 192 v = J 192 v)) (hB : ∀ f, f < D.length → (B' 198 (12 * h + f) = B 198 (12 * h + f) ∧ B' 200 (12 * h + f) = B 200 (12 * h + f) ∧ B' 201 (12 * h + f) = B 201 (12 * h + f) ∧ B' 202 (12 * h + f) = B 202 (12 * h + f) ∧ J' 194 (12 * h + f) = J 194 (12 * h + f) ∧ ∀ i, i < 4 → B' 199 (4 * (12 * h + f) + i) = B 199 (4 * (12 * h + f) + i))) (h205 : B' 205 h = B 205 h) (h44 : B' 186 44 = B 186 44) (h45 : B' 186 45 = B 186 45) : OF k h D F B' J' L' P' md' n := by
  obtain ⟨f147, hsum, hnod, hDD, hDX, ⟨u1, u2, u3, u4⟩, ⟨n35, n37, n39, n41, n43, n43b⟩, ⟨w44, w45⟩⟩ := H
  have hF := frd_of (D := D) hT hsum hTE hL hA hB
  refine ⟨f147, ?_, ?_, dd_frd hDD hF hm (hL _ (by omega)) h205, dx_to hDX hF hm (exb_eq (hL _ (by omega)) (hL _ (by omega))), ⟨by rw [hL _ (by omega)]; omega, by rw [hL _ (by omega)]; omega, by rw [hL _ (by omega)]; omega, by rw [hL _ (by omega)]; omega⟩, ⟨by rw [hL _ (by omega)]; exact n35, by rw [hL _ (by omega)]; exact n37, by rw [hL _ (by omega)]; exact n39, by rw [hL _ (by omega)]; exact n41, by rw [hL _ (by omega)]; exact n43, by rw [hL _ (by omega)]; exact n43b⟩, ⟨by rw [h44]; exact w44, by rw [h45]; exact w45⟩⟩
  · unfold sumL
    rw [hL _ (by omega), hL _ (by omega), hL _ (by omega), hL _ (by omega), hL _ (by omega)]
    exact hsum
  · unfold nodL
    rw [hL _ (by omega), hL _ (by omega), hL _ (by omega), hL _ (by omega), hL _ (by omega), hL _ (by omega)]
    exact hnod
theorem df_mid {w : List Nat} (hw : isN w) (hO : OF k h D F B J L t.2.2 md S.length) (hC : CR I B J bs t r) (H : QS k h D.length W F I B J L t.2.2 md S a6 a8 a0 b) (e194 : J 194 (12 * h + D.length) = lN (rN w)) :
    (∃ I' B' J', D2 k I F (nI (cN w)) = some I' ∧ dfX B J (nI (12 * h + D.length)) (nI S.length) = some (0, B', J') ∧ PL k h (b + 1) I B J I' B' J') ∨
    (∃ (e : Df) (I' B' : iT) (J' : jT) (L' : lT) (t' : Tok) (r' : List Tok) (md' : Nat), D2 k I F (nI (cN w)) = some I' ∧ dfX B J (nI (12 * h + D.length)) (nI S.length) = some (1, B', J') ∧ CR I' B' J' bs t' r' ∧ BS k h W (D ++ [e]) F I' B' J' L' t'.2.2 md' b ∧ e.2.1.length = S.length ∧ t.2.2 < t'.2.2 ∧ FQ k I I' ∧ RX h B J B' J' ∧ I' 134 6 = I 134 6 ∧ (∀ i, B' 203 i = B 203 i)) := by
  have hk0 := H.1.1.1
  have hF := H.2.1
  have hbb := H.2.2.2.1
  have hl := H.2.2.2.2.2.1
  have hh := H.1.2.2.2.2.1.1
  have hT := H.1.2.2.1
  have hS4 := H.2.2.1.2.1.2.2.1
  have i24 : inb (nI (12 * h + D.length)) 24 := vp_in_nI (by omega) (by omega)
  have c24 : (nI (12 * h + D.length)).toNatClampNeg = 12 * h + D.length := nI_clamp (by omega)
  -- the count of the PARAMS is kept
  have fB1 : ∀ q i, ¬ (q = 198 ∧ i = 12 * h + D.length) → (a_u2 B 198 (12 * h + D.length) (nI S.length)) q i = B q i := fun q i w => a_u2_n _ _ w
  have gB1 : (a_u2 B 198 (12 * h + D.length) (nI S.length)) 198 (12 * h + D.length) = nI S.length := a_u2_s _ _ _ _
  have eX : dfX B J (nI (12 * h + D.length)) (nI S.length) = (mX12_isFree (a_u2 B 198 (12 * h + D.length) (nI S.length)) J).bind fun q10 => if q10.1 = 0 then some (0, q10.2, J) else (mX12_look0 q10.2 (a_u2 J 196 (12 * h + D.length) (J 186 6))).bind fun q11 => (mX12_need q11.1 q11.2 58).bind fun q12 => if q12.1 = 0 then some (0, q12.2.1, q12.2.2) else dfW q12.2.1 q12.2.2 (nI (12 * h + D.length)) := by
    rw [dfX_eq, if_pos i24]
    simp only [if_pos i24, c24]
  rw [eX]
  generalize (a_u2 B 198 (12 * h + D.length) (nI S.length)) = B1 at fB1 gB1 ⊢
  have hC1 : CR I B1 J bs t r := CR_B hC (fun j _ _ => fB1 _ _ (by omega)) (funext fun j => fB1 _ _ (by omega)) rfl
  have hA1 : ∀ v, (B1 188 v = B 188 v ∧ B1 189 v = B 189 v ∧ B1 190 v = B 190 v ∧ B1 191 v = B 191 v ∧ J 192 v = J 192 v) := fun v => ⟨fB1 _ _ (by omega), fB1 _ _ (by omega), fB1 _ _ (by omega), fB1 _ _ (by omega), rfl⟩
  have H1 : QS k h D.length W F I B1 J L t.2.2 md S a6 a8 a0 b := by
    obtain ⟨⟨q1, q2, q3, q4, ⟨u1, u2, u3, u4, u5⟩, u6⟩, h2, h3, h4, h5, h6, h7, h8⟩ := H
    exact ⟨⟨q1, q2, q3, nt_to q4 q3 TE.rfl rfl rfl (fun v _ _ => hA1 v) (fB1 _ _ (by omega)) (fun _ => rfl) (fun _ => fB1 _ _ (by omega)), ⟨u1, by rw [fB1 _ _ (by omega)]; exact u2, by rw [fB1 _ _ (by omega)]; exact u3, by rw [fB1 _ _ (by omega)]; exact u4, u5⟩, u6⟩, h2, qr_to h3 q3 TE.rfl (fun _ _ _ => rfl) (fB1 _ _ (by omega)) (fun _ => fB1 _ _ (by omega)) (fun _ => fB1 _ _ (by omega)) (fun _ => rfl) (fun v _ _ => hA1 v) (Nat.le_refl _), h4, h5, h6, fun i s hs => by rw [fB1 _ _ (by omega)]; exact h7 i s hs, h8⟩
  have rx1 : RX h B J B1 J := fun q i w => ⟨fB1 q i (fun z => w (by unfold touR; omega)), rfl⟩
  have eD2 : D2 k I F (nI (cN w)) = (mX3_readFreshThing I).bind fun q5 => D3 k q5.2 F (nI (cN w)) q5.1 := rfl
  rw [eD2]
  rcases jfreeQ hC1 H1.1.1 hT H1.2.2.1 (qs_scp H1) (by omega) with ⟨x, I2, B2, f1, f2, f3, f4⟩ | ⟨u, r1, I2, q, hgN, hno, k1, g1, g2, hJ6, k2, k6⟩
  · left
    obtain ⟨I', a1, a2⟩ := pfu_PL ((PL.pre FQ.rfl rx1 f3).mono (Nat.le_succ b) (by omega)) (c' := b + 1) (fun f p hf => pf_D3 (F := F) hf (nI (cN w)) x)
    exact ⟨I', B2, J, by rw [f1, sb]; exact a1, by rw [f2, sb, if_pos rfl], a2⟩
  · rw [g1, sb, g2, sb, if_neg i10]
    have htl : tl t.1 = 1 := by rw [q]; decide
    have fJ1 : ∀ q i, ¬ (q = 196 ∧ i = 12 * h + D.length) → (a_u2 J 196 (12 * h + D.length) (J 186 6)) q i = J q i := fun q i w => a_u2_n _ _ w
    have gJ1 : (a_u2 J 196 (12 * h + D.length) (J 186 6)) 196 (12 * h + D.length) = lN (rN t.2.1) := by rw [a_u2_s]; exact hJ6
    generalize (a_u2 J 196 (12 * h + D.length) (J 186 6)) = J1 at fJ1 gJ1 ⊢
    have hC1' : CR I B1 J1 bs t r := CR_B hC1 (fun _ _ _ => rfl) rfl (fJ1 _ _ (by omega))
    have hA1' : ∀ v, (B1 188 v = B1 188 v ∧ B1 189 v = B1 189 v ∧ B1 190 v = B1 190 v ∧ B1 191 v = B1 191 v ∧ J1 192 v = J 192 v) := fun v => ⟨rfl, rfl, rfl, rfl, fJ1 _ _ (by omega)⟩
    have H1' : QS k h D.length W F I B1 J1 L t.2.2 md S a6 a8 a0 b := by
      obtain ⟨⟨q1, q2, q3, q4, q5, u6⟩, h2, h3, h4, h5, h6, h7, h8⟩ := H1
      exact ⟨⟨q1, q2, q3, nt_to q4 q3 TE.rfl rfl rfl (fun v _ _ => hA1' v) rfl (fun _ => fJ1 _ _ (by omega)) (fun _ => rfl), q5, u6⟩, h2, qr_to h3 q3 TE.rfl (fun _ _ _ => rfl) rfl (fun _ => rfl) (fun _ => rfl) (fun _ => fJ1 _ _ (by omega)) (fun v _ _ => hA1' v) (Nat.le_refl _), h4, h5, h6, h7, h8⟩
    obtain ⟨u1, r2, I2b, B2, J2, l1, l2, l3, l4, l5, l6, l7⟩ := jadv hC1' (by omega)
    have eI : I2b = I2 := Option.some.inj (l2.symm.trans k2)
    subst eI
    rw [htl] at l5
    have H2 := qs_cur H1' l6 l7 (P' := u1.2.2) (by omega)
    rw [l3, sb]
    have rx2 : RX h B J B2 J2 := (rx1.trans (fun q i w => ⟨rfl, fJ1 q i (fun z => w (by unfold touR; omega))⟩)).trans (rf_RX l7)
    have fq2 : FQ k I I2b := cQ_FQ (cf_cQ l6)
    show (∃ I' B' J', ((mX2_want I2b (nI 58)).bind fun q6 => D4 k q6 F (nI (cN w)) (nI (cN t.2.1))) = some I' ∧ ((mX12_need B2 J2 (nI 58)).bind _) = some (0, B', J') ∧ _) ∨ (∃ (e : Df) (I' B' : iT) (J' : jT) (L' : lT) (t' : Tok) (r' : List Tok) (md' : Nat), ((mX2_want I2b (nI 58)).bind fun q6 => D4 k q6 F (nI (cN w)) (nI (cN t.2.1))) = some I' ∧ ((mX12_need B2 J2 (nI 58)).bind _) = some (1, B', J') ∧ _)
    rcases jneed l4 H2.1.1 h 58 (by omega) with ⟨w1, u3, r3, I3, B3, J3, s1, s2, s3, s4, s5, s6, s7⟩ | ⟨w1, I3, B3, s2, s3, s4⟩
    · have htl3 : tl u1.1 = 1 := by rw [w1]; decide
      rw [htl3] at s5
      have H3 := qs_cur H2 s6 s7 (P' := u3.2.2) (by omega)
      have rx3 : RX h B J B3 J3 := rx2.trans (rf_RX s7)
      have fq3 : FQ k I I3 := fq2.trans (cQ_FQ (cf_cQ s6))
      rw [s2, sb, s3, sb, if_neg i10]
      obtain ⟨x, I4, v, B4, J4, a1, a2, ho⟩ := wh_ok s4 H3.1
      have eD4 : D4 k I3 F (nI (cN w)) (nI (cN t.2.1)) = D5 k I4 F (nI (cN w)) (nI (cN t.2.1)) x := by
        unfold D4
        rw [a1, sb]
      rw [eD4]
      unfold dfW
      show (∃ I' B' J', _ ∧ ((mX12_wholeType B3 J3).bind _) = some (0, B', J') ∧ _) ∨ (∃ (e : Df) (I' B' : iT) (J' : jT) (L' : lT) (t' : Tok) (r' : List Tok) (md' : Nat), _ ∧ ((mX12_wholeType B3 J3).bind _) = some (1, B', J') ∧ _)
      rw [a2, sb]
      rcases ho with ⟨rfl, hf⟩ | ⟨rfl, uu, tt, p, L4, t4, r4, md4, o1, o2, o3, o4, o5, o6, o7, o8, o9, o10, o11, o12, o13, o14⟩
      · left
        have hpl := (PL.pre fq3 rx3 (fail_PL hf (qs_scp H3) (by omega))).mono (Nat.le_succ b) (by omega)
        obtain ⟨I', d1, d2⟩ := pfu_PL hpl (c' := b + 1) (fun f p hf => pf_D5 (F := F) hf (nI (cN w)) (nI (cN t.2.1)) x)
        exact ⟨I', B4, J4, d1, by rw [if_pos rfl], d2⟩
      · subst o1
        have H4 := qs_type H3 o3 o4 o13 o14 o8
        rw [if_neg i10, if_pos i24, if_pos i24]
        simp only [c24]
        -- the T that is given is kept
        have fB5 : ∀ q i, ¬ (q = 200 ∧ i = 12 * h + D.length) → (a_u2 B4 200 (12 * h + D.length) (B4 186 36)) q i = B4 q i := fun q i w => a_u2_n _ _ w
        have gB5 : (a_u2 B4 200 (12 * h + D.length) (B4 186 36)) 200 (12 * h + D.length) = nI uu := by rw [a_u2_s]; exact o7
        have gB5' : (a_u2 B4 200 (12 * h + D.length) (B4 186 36)) 186 36 = nI uu := by rw [a_u2_n _ _ (by omega)]; exact o7
        rw [gB5']
        generalize (a_u2 B4 200 (12 * h + D.length) (B4 186 36)) = B5 at fB5 gB5 gB5' ⊢
        have hA5 : ∀ v, (B5 188 v = B4 188 v ∧ B5 189 v = B4 189 v ∧ B5 190 v = B4 190 v ∧ B5 191 v = B4 191 v ∧ J4 192 v = J4 192 v) := fun v => ⟨fB5 _ _ (by omega), fB5 _ _ (by omega), fB5 _ _ (by omega), fB5 _ _ (by omega), rfl⟩
        have hT4 := o3.2.2.1
        have hQR5 : QR k h (1400 * h + md4) L4 I4 B5 J4 S a6 a8 a0 := qr_to H4.2.2.1 hT4 TE.rfl (fun _ _ _ => rfl) (fB5 _ _ (by omega)) (fun _ => fB5 _ _ (by omega)) (fun _ => fB5 _ _ (by omega)) (fun _ => rfl) (fun v _ _ => hA5 v) (Nat.le_refl _)
        have hTR5 : TR k L4 B5 J4 (fun v => 1400 * h ≤ v ∧ v < 1400 * h + md4) p uu tt p := tr_to hT4 TE.rfl (fun v _ => hA5 v) (fun v hv => hv) _ _ _ _ _ (Nat.le_refl _) o5
        have e196 : J4 196 (12 * h + D.length) = lN (rN t.2.1) := by rw [o14.2 _ _ (by omega) (by omega), s7.2 _ _ (by omega), l7.2 _ _ (by omega)]; exact gJ1
        have hns := newSlot_ok (B := B5) (J := J4) hQR5.2.1.2.2.2.1 (by omega) (lN (rN t.2.1)) 1 (nI uu)
        obtain ⟨I5, p1, p2, p3⟩ := sr_first hQR5 hT4 hgN hno o6 hTR5
        rw [e196, hns, sb]
        have eD5 : D5 k I4 F (nI (cN w)) (nI (cN t.2.1)) (nI tt) = (mX2_want I5 (nI 61)).bind fun q9 => D6 k q9 F (nI (cN w)) (nI tt) := by
          unfold D5
          rw [p1, sb]
          rfl
        rw [eD5]
        have fB7 : ∀ q i, ¬ (q = 186 ∧ (i = 43 ∨ i = 51)) → q ≠ 208 → q ≠ 209 → (a_u2 (a_u2 (a_u2 (a_u2 B5 208 S.length 1) 209 S.length (nI uu)) 186 43 (nI (S.length + 1))) 186 51 (nI S.length)) q i = B5 q i := fun q i w1 w2 w3 => by rw [a_u2_n _ _ (by omega), a_u2_n _ _ (by omega), a_u2_n _ _ (by omega), a_u2_n _ _ (by omega)]
        have fJ7 : ∀ q i, q ≠ 206 → (a_u2 J4 206 S.length (lN (rN t.2.1))) q i = J4 q i := fun q i w => a_u2_n _ _ (by omega)
        have hSR7 : SR k h (1400 * h + md4) L4 I5 (a_u2 (a_u2 (a_u2 (a_u2 B5 208 S.length 1) 209 S.length (nI uu)) 186 43 (nI (S.length + 1))) 186 51 (nI S.length)) (a_u2 J4 206 S.length (lN (rN t.2.1))) S.length 0 ((2, t.2.1, uu, tt, p) :: S) (a6.set 0 (nI (cN t.2.1))) (a8.set 0 (nI tt)) a0 := sr_to p2 hT4 TE.rfl (fun _ _ _ => rfl) (a_u2_n _ _ (by omega)) (fun _ => a_u2_n _ _ (by omega)) (fun _ => a_u2_n _ _ (by omega)) (fun _ => rfl) (fun v _ _ => ⟨a_u2_n _ _ (by omega), a_u2_n _ _ (by omega), a_u2_n _ _ (by omega), a_u2_n _ _ (by omega), rfl⟩)
        show (∃ I' B' J', _ ∧ ((mX12_need (a_u2 (a_u2 (a_u2 (a_u2 B5 208 S.length 1) 209 S.length (nI uu)) 186 43 (nI (S.length + 1))) 186 51 (nI S.length)) (a_u2 J4 206 S.length (lN (rN t.2.1))) (nI 61)).bind _) = some (0, B', J') ∧ _) ∨ (∃ (e : Df) (I' B' : iT) (J' : jT) (L' : lT) (t' : Tok) (r' : List Tok) (md' : Nat), _ ∧ ((mX12_need (a_u2 (a_u2 (a_u2 (a_u2 B5 208 S.length 1) 209 S.length (nI uu)) 186 43 (nI (S.length + 1))) 186 51 (nI S.length)) (a_u2 J4 206 S.length (lN (rN t.2.1))) (nI 61)).bind _) = some (1, B', J') ∧ _)
        generalize (a_u2 (a_u2 (a_u2 (a_u2 B5 208 S.length 1) 209 S.length (nI uu)) 186 43 (nI (S.length + 1))) 186 51 (nI S.length)) = B7 at fB7 hSR7 ⊢
        generalize (a_u2 J4 206 S.length (lN (rN t.2.1))) = J7 at fJ7 hSR7 ⊢
        have hA7 : ∀ v, (B7 188 v = B4 188 v ∧ B7 189 v = B4 189 v ∧ B7 190 v = B4 190 v ∧ B7 191 v = B4 191 v ∧ J7 192 v = J4 192 v) := fun v => ⟨by rw [fB7 _ _ (by omega) (by omega) (by omega), fB5 _ _ (by omega)], by rw [fB7 _ _ (by omega) (by omega) (by omega), fB5 _ _ (by omega)], by rw [fB7 _ _ (by omega) (by omega) (by omega), fB5 _ _ (by omega)], by rw [fB7 _ _ (by omega) (by omega) (by omega), fB5 _ _ (by omega)], fJ7 _ _ (by omega)⟩
        have hR5 : RS I5 k L4 := rs_keep o3.1 (fun a ha => by
          unfold rowA at ha
          exact ⟨p3 a (by omega), p3 (a + 1) (by omega)⟩)
        have hC7 : CR I5 B7 J7 bs t4 r4 := CR_B (CR_I o2 (p3 _ (by omega)) (p3 _ (by omega)) (p3 _ (by omega)) (p3 _ (by omega))) (fun j _ _ => by rw [fB7 _ _ (by omega) (by omega) (by omega), fB5 _ _ (by omega)]) (funext fun j => by rw [fB7 _ _ (by omega) (by omega) (by omega), fB5 _ _ (by omega)]) (fJ7 _ _ (by omega))
        have fq5 : FQ k I I5 := (fq3.trans (FX_FQ (cT_FX o13))).trans (fun q w1 w2 w3 => p3 q (by omega))
        have rx7 : RX h B J B7 J7 := (rx3.trans (rT_RX o14)).trans (fun q i w => ⟨by rw [fB7 q i (fun z => w (by unfold touR; omega)) (fun z => w (by unfold touR; omega)) (fun z => w (by unfold touR; omega)), fB5 q i (fun z => w (by unfold touR; omega))], fJ7 q i (fun z => w (by unfold touR; omega))⟩)
        have hsz := hbb
        have hs5 : SCP b I5 := ⟨_, _, a0, 0, hSR7.1, hSR7.2.1.1, by omega, hbb.1⟩
        rcases jneed hC7 hR5 h 61 (by omega) with ⟨w1, u6, r6, I6, B8, J8, m1, m2, m3, m4, m5, m6, m7⟩ | ⟨w1, I6, B8, m2, m3, m4⟩
        · have htl4 : tl t4.1 = 1 := by rw [w1]; decide
          rw [htl4] at m5
          rw [m2, sb, m3, sb, if_neg i10]
          have fB8 : ∀ q i, q ≠ 186 → B8 q i = B7 q i := fun q i w => m7.1 _ _ (by omega)
          have fJ8 : ∀ q i, q ≠ 186 → J8 q i = J7 q i := fun q i w => m7.2 _ _ (by omega)
          have hA8 : ∀ v, (B8 188 v = B4 188 v ∧ B8 189 v = B4 189 v ∧ B8 190 v = B4 190 v ∧ B8 191 v = B4 191 v ∧ J8 192 v = J4 192 v) := fun v => by
            obtain ⟨y1, y2, y3, y4, y5⟩ := hA7 v
            exact ⟨by rw [fB8 _ _ (by omega)]; exact y1, by rw [fB8 _ _ (by omega)]; exact y2, by rw [fB8 _ _ (by omega)]; exact y3, by rw [fB8 _ _ (by omega)]; exact y4, by rw [fJ8 _ _ (by omega)]; exact y5⟩
          -- from the start to here
          have z4 : ∀ q i, 193 ≤ q → q ≤ 205 → ¬ (q = 198 ∧ i = 12 * h + D.length) → B4 q i = B q i := fun q i w1 w2 w3 => by rw [o14.1 q i (by omega) (by omega), s7.1 q i (by omega), l7.1 q i (by omega), fB1 q i w3]
          have y4 : ∀ q i, 193 ≤ q → q ≤ 205 → ¬ (q = 196 ∧ i = 12 * h + D.length) → J4 q i = J q i := fun q i w1 w2 w3 => by rw [o14.2 q i (by omega) (by omega), s7.2 q i (by omega), l7.2 q i (by omega), fJ1 q i w3]
          have z8 : ∀ q i, 193 ≤ q → q ≤ 205 → ¬ ((q = 198 ∨ q = 200) ∧ i = 12 * h + D.length) → B8 q i = B q i := fun q i w1 w2 w3 => by rw [fB8 q i (by omega), fB7 q i (by omega) (by omega) (by omega), fB5 q i (by omega), z4 q i w1 w2 (by omega)]
          have y8 : ∀ q i, 193 ≤ q → q ≤ 205 → ¬ (q = 196 ∧ i = 12 * h + D.length) → J8 q i = J q i := fun q i w1 w2 w3 => by rw [fJ8 q i (by omega), fJ7 q i (by omega), y4 q i w1 w2 w3]
          have hA : ∀ v, (1400 * h ≤ v ∧ v < 1400 * h + md) → (B8 188 v = B 188 v ∧ B8 189 v = B 189 v ∧ B8 190 v = B 190 v ∧ B8 191 v = B 191 v ∧ J8 192 v = J 192 v) := fun v hv => by
            obtain ⟨y1, y2, y3, y4, y5⟩ := hA8 v
            exact ⟨by rw [y1, o14.1 _ _ (by omega) (by omega), s7.1 _ _ (by omega), l7.1 _ _ (by omega), fB1 _ _ (by omega)], by rw [y2, o14.1 _ _ (by omega) (by omega), s7.1 _ _ (by omega), l7.1 _ _ (by omega), fB1 _ _ (by omega)], by rw [y3, o14.1 _ _ (by omega) (by omega), s7.1 _ _ (by omega), l7.1 _ _ (by omega), fB1 _ _ (by omega)], by rw [y4, o14.1 _ _ (by omega) (by omega), s7.1 _ _ (by omega), l7.1 _ _ (by omega), fB1 _ _ (by omega)], by rw [y5, o14.2 _ _ (by omega) (by omega), s7.2 _ _ (by omega), l7.2 _ _ (by omega), fJ1 _ _ (by omega)]⟩
          have k44 : ∀ i, i = 44 ∨ i = 45 → B8 186 i = B 186 i := fun i w => by rw [m7.1 _ _ (by omega), fB7 _ _ (by omega) (by omega) (by omega), fB5 _ _ (by omega), o14.1 _ _ (by omega) (by omega), s7.1 _ _ (by omega), l7.1 _ _ (by omega), fB1 _ _ (by omega)]
          have hO8 : OF k h D F B8 J8 L4 u6.2.2 md4 S.length := of_to hT hO o8 (by omega) o4.1 o4.2 hA (fun f hf => ⟨z8 _ _ (by omega) (by omega) (by omega), z8 _ _ (by omega) (by omega) (by omega), z8 _ _ (by omega) (by omega) (by omega), z8 _ _ (by omega) (by omega) (by omega), y8 _ _ (by omega) (by omega) (by omega), fun i hi => z8 _ _ (by omega) (by omega) (by omega)⟩) (z8 _ _ (by omega) (by omega) (by omega)) (k44 44 (by omega)) (k44 45 (by omega))
          have hBT8 : BT k h (1400 * h + md4) W F I6 B8 J8 L4 u6.2.2 md4 := by
            obtain ⟨q1, q2, q3, q4, ⟨u1, u2, u3, u4, u5⟩, u6, ⟨u7, u8, u9⟩⟩ := o3
            have e1 : ∀ i, (i = 32 ∨ i = 16 ∨ i = 17) → B8 186 i = B4 186 i := fun i w => by rw [m7.1 _ _ (by omega), fB7 _ _ (by omega) (by omega) (by omega), fB5 _ _ (by omega)]
            exact ⟨cf_RS m6 hR5, q2, q3, nt_to q4 q3 TE.rfl rfl rfl (fun v _ _ => hA8 v) (by rw [fB8 _ _ (by omega), fB7 _ _ (by omega) (by omega) (by omega), fB5 _ _ (by omega)]) (fun i => by rw [fJ8 _ _ (by omega), fJ7 _ _ (by omega)]) (fun i => by rw [fB8 _ _ (by omega), fB7 _ _ (by omega) (by omega) (by omega), fB5 _ _ (by omega)]), ⟨u1, by rw [e1 _ (by omega)]; exact u2, by rw [e1 _ (by omega)]; exact u3, by rw [e1 _ (by omega)]; exact u4, u5⟩, u6, ⟨by omega, by omega, by omega⟩⟩
          have hSR8 := sr_to (I' := I6) (B' := B8) (J' := J8) hSR7 hT4 TE.rfl (fun c q1 q2 => cf_b m6 (by omega)) (m7.1 _ _ (by omega)) (fun _ => m7.1 _ _ (by omega)) (fun _ => m7.1 _ _ (by omega)) (fun _ => m7.2 _ _ (by omega)) (fun v _ _ => ⟨m7.1 _ _ (by omega), m7.1 _ _ (by omega), m7.1 _ _ (by omega), m7.1 _ _ (by omega), m7.2 _ _ (by omega)⟩)
          have tr8 : ∀ {p u t : Nat}, TR k L4 B4 J4 (fun v => 1400 * h ≤ v ∧ v < 1400 * h + md4) p u t p → TR k L4 B8 J8 (fun v => 1400 * h ≤ v ∧ v < 1400 * h + md4) p u t p := fun z => tr_to hT4 TE.rfl (fun v _ => hA8 v) (fun v hv => hv) _ _ _ _ _ (Nat.le_refl _) z
          obtain ⟨v1, v2, v3, v4, v5, v6, v7, v8⟩ := H4
          have e198 : B8 198 (12 * h + D.length) = nI S.length := by rw [fB8 _ _ (by omega), fB7 _ _ (by omega) (by omega) (by omega), fB5 _ _ (by omega), o14.1 _ _ (by omega) (by omega), s7.1 _ _ (by omega), l7.1 _ _ (by omega)]; exact gB1
          have e200 : B8 200 (12 * h + D.length) = nI uu := by rw [fB8 _ _ (by omega), fB7 _ _ (by omega) (by omega) (by omega)]; exact gB5
          have hst := df_steps (g := t.2.1) (p := p) (uu := uu) (tt := tt) (P0 := u6.2.2) hw hO8 hF m4 hBT8 hSR8 hsz (Nat.le_refl _) hl o6 (tr8 o5) e200 e198 (by rw [y8 _ _ (by omega) (by omega) (by omega)]; exact e194) v5 (fun i s hs => by
            obtain ⟨x1, x2⟩ := v7 i s hs
            obtain ⟨x3, x4, x5, x6, x7, x8, x9⟩ := v3.2.2.1 i s hs
            exact ⟨x1, by rw [fB8 _ _ (by omega), fB7 _ _ (by omega) (by omega) (by omega), fB5 _ _ (by omega)]; exact x2, x3, fun z => ⟨(x9 z).2.1, tr8 (x9 z).2.2⟩⟩) v8 hS4
          have fq6 : FQ k I I6 := fq5.trans (cQ_FQ (cf_cQ m6))
          have rx8 : RX h B J B8 J8 := rx7.trans (rf_RX m7)
          have g134 : I6 134 = I 134 := by rw [cf_b m6 (by omega), p3 134 (by omega), o13 134 (by omega) (by omega) (by omega) (by omega), cf_b s6 (by omega), cf_b l6 (by omega)]
          show (∃ I' B' J', _ ∧ dfP B8 J8 (nI (12 * h + D.length)) = some (0, B', J') ∧ _) ∨ (∃ (e : Df) (I' B' : iT) (J' : jT) (L' : lT) (t' : Tok) (r' : List Tok) (md' : Nat), _ ∧ dfP B8 J8 (nI (12 * h + D.length)) = some (1, B', J') ∧ _)
          rcases hst with ⟨I', B', J', c1, c2, c3⟩ | ⟨e, I', B', J', L', t', r', md', c1, c2, c3, c4, c5, c6, c7, c8, c9, c10⟩
          · exact Or.inl ⟨I', B', J', c1, c2, PL.pre fq6 rx8 c3⟩
          · exact Or.inr ⟨e, I', B', J', L', t', r', md', c1, c2, c3, c4, c5, by omega, fq6.trans c7, rx8.trans c8, by rw [c9, g134], fun i => by rw [c10 i, z8 _ _ (by omega) (by omega) (by omega)]⟩
        · left
          rw [m2, sb, m3, sb, if_pos rfl]
          have hpl := (PL.pre fq5 rx7 (fail_PL m4 hs5 (by omega))).mono (Nat.le_succ b) (by omega)
          obtain ⟨I', d1, d2⟩ := pfu_PL hpl (c' := b + 1) (fun f p hf => pf_D6 (F := F) hf (nI (cN w)) (nI tt))
          exact ⟨I', B8, J7, d1, rfl, d2⟩
    · left
      rw [s2, sb, s3, sb, if_pos rfl]
      have hpl := (PL.pre fq2 rx2 (fail_PL s4 (qs_scp H2) (by omega))).mono (Nat.le_succ b) (by omega)
      obtain ⟨I', d1, d2⟩ := pfu_PL hpl (c' := b + 1) (fun f p hf => pf_D4 (F := F) hf (nI (cN w)) (nI (cN t.2.1)))
      exact ⟨I', B3, J2, d1, rfl, d2⟩
end
