/-! ONE STEP: go (pure) -/
section
variable {sp : Int32} {k h md : Nat} {D : List Df} {L : lT} {B0 : iT} {J0 : jT} {F : fT} {I B : iT} {J : jT} {np nm dn sd : Nat} {R : lT} {z : Nat → Prop} {p f : Nat} {e : Df} {Γ : Nat → Gm} {ch : Nat → Nat → Nat} {rl dp : Nat → Nat} {ow : Nat → Nat × Nat × Nat} {Gt Ht : Nat → Nat} {q : Nat → List Nat} {mr rk : Nat → Nat} {Q Rn Rc : Nat → Prop}
/-- what a book has of a DEF -/
theorem bk_go (H : BK k h md D L B0 J0) {fd : Nat} {df : Df} (hf : D[fd]? = some df) : fd < 12 ∧ PMr k fd L df.2.1 ∧ (∀ (i t : Nat), ((2, df.2.2) :: df.2.1)[i]? = some (2, t) → TRX k L B0 J0 t) ∧ ∃ (u κ l m : Nat) (Q Rn Rc : Nat → Prop), B0 201 (12 * h + fd) = nI u ∧ gI (L (k + 37)) fd = nI κ ∧ (m ≤ 250 ∧ QH B0 Q) ∧ PR k df.2.1.length (D.take fd) L B0 J0 Q Rn Rc m u κ l ((2, df.2.2) :: df.2.1) := by
  have hK1 : (L (k + 2)).length ≤ 1000 := H.2.2.2.2.2.2.2.2.1.2.2.1
  have hmd := H.2.2.2.2.2.2.2.2.2.2.2.1
  have h31 := H.2.2.2.2.2.2.2.2.2.2.2.2
  have hh := H.2.1
  have hQH : QH B0 (fun v => 1400 * h ≤ v ∧ v < 1400 * h + md) := fun v hv => by
    rw [h31, nI_clamp (by omega)]
    exact ⟨hv.1, by omega⟩
  obtain ⟨_, _, _, _, _, ⟨_, _, d3, d4⟩, ⟨_, dx⟩, _⟩ := H
  obtain ⟨_, _, _, ⟨u0, p0, _, hp0, hTR⟩, a0, a1, a2, a3⟩ := d4 fd df hf
  obtain ⟨u, κ, l, m, w, b1, b2, b3, b4, b5, b6, b7, b8, b9⟩ := dx fd df hf
  have hlen := (List.getElem?_eq_some_iff.mp hf).1
  have hX : ∀ (i t : Nat), ((2, df.2.2) :: df.2.1)[i]? = some (2, t) → TRX k L B0 J0 t := by
    intro i t hi
    cases i with
    | zero =>
      have := pair2 hi
      rw [← this]
      exact ⟨_, _, _, _, _, _, hp0, hTR⟩
    | succ i =>
      have hi' : df.2.1[i]? = some (2, t) := hi
      rcases a3 i _ hi' with ⟨y, _⟩ | ⟨_, _, u1, p1, _, y1, y2⟩
      · exact absurd y (show (2 : Nat) ≠ 1 by omega)
      · exact ⟨_, _, _, _, _, _, y1, y2⟩
  refine ⟨by omega, ⟨a2, a0, fun j q hj => ?_, b9⟩, hX, u, κ, l, m, _, _, _, b1, b2, ⟨b6, hQH⟩, b8⟩
  rcases a3 j q hj with ⟨y1, y2, _⟩ | ⟨y1, y2, _⟩
  · exact Or.inl ⟨y1, y2⟩
  · refine Or.inr ⟨y1, ?_⟩
    rw [y2]
    obtain ⟨s, t⟩ := q
    have y1' : s = 2 := y1
    subst y1'
    have := trx_lt (hX (j + 1) t hj) hK1
    exact nIm (show t < 2 ^ 31 by omega)
theorem ga_ok (S : STR1 sp k h md D L B0 J0 F I B J np nm dn sd R z p f e Γ ch rl dp ow Gt Ht q mr rk) {κ fd a : Nat} {df : Df} {vc : List Int32} (hκ : κ < 2 ^ 31) (h51 : gI (L (k + 51)) κ = nI fd) (h53 : gI (L (k + 53)) κ = nI a) (hfd : fd < 12) (hP : PMr k fd L df.2.1) (hc : GAc k p a L (fun i => gI (R 176) (p * 85 + i)) df.2.1 vc) : ∃ I' R', mX6_gatherArgs I F (nI p) (nI κ) = some I' ∧ RK I' k L ∧ RN I' R' ∧ R' 178 = vc ∧ (∀ a, a ≠ 178 → R' a = R a) ∧ I' 148 = I 148 := by
  obtain ⟨k1, k2, k3, k4, k5, k6, k7, k8, k9⟩ := st_hk S
  obtain ⟨s1, s2, s3, s4, s5, s6, s7, s8, s9, s10, s11, s12, s13, s14, ⟨t1, t2, t3, t4, t5, t6, t7, t8⟩, s15, s16⟩ := S
  obtain ⟨I1, a1, a2, a3⟩ := rn_clear s5 (a := 178) (by unfold rnA; omega)
  have hK1 := rk_keep s4 (I' := I1) (fun a w1 w2 => a3 a (by omega) (by omega))
  obtain ⟨I', R', b1, b2, b3, b4, b5, b6⟩ := hc 0 a fd I1 _ F rfl hK1 a2 s3 (fun i _ => by rw [upL_n _ _ (by omega)]) hfd (by rw [Nat.zero_add]; exact hP.2.1) (fun j q hj => by rw [Nat.zero_add]; exact hP.2.2.1 j q hj) (by rw [Nat.zero_add]; exact hP.1) (by rw [upL_s]; rfl) (LF - df.2.1.length - 1) (nI κ)
  have hle := hP.1
  have e1 : LF - df.2.1.length - 1 + df.2.1.length + 1 = LF := by unfold LF; omega
  rw [e1] at b1
  refine ⟨I', R', ?_, b2, b3, by rw [b4, upL_s]; rfl, fun a ha => by rw [b5 a ha, upL_n _ _ ha], by rw [b6 148 (by omega) (by omega) (by omega) (by omega), a3 148 (by omega) (by omega)]⟩
  unfold mX6_gatherArgs
  rw [s3, rk_g s4 (by unfold rkA; omega) hκ, sb, h51, rk_g s4 (by unfold rkA; omega) hκ, sb, h53, a1, sb]
  exact b1
theorem en_ok {B : iT} {p fd : Nat} (hp : p < 80) (hh : h < 2) (h31 : B 186 31 = nI h) (hfd : fd < 12) : mX12_enters B (nI p) (nI fd) = some (a_u2 (a_u2 B 212 p (nI fd)) 213 p (B 201 (12 * h + fd))) := by
  have e1 : a_u2 B 212 p (nI fd) 186 31 = nI h := by rw [a_u2_n _ _ (by omega)]; exact h31
  have i24 : inb (nI (12 * h + fd)) 24 := vp_in_nI (by omega) (by omega)
  unfold mX12_enters mX12_def0
  simp only [if_pos (in80 hp), sb, cl80 hp, e1, i12, if_pos i24, nI_clamp (show 12 * h + fd < 2 ^ 31 by omega)]
  rw [a_u2_n _ _ (show ¬ (201 = 212 ∧ 12 * h + fd = p) by omega)]
theorem k_go (S : STR1 sp k h md D L B0 J0 F I B J np nm dn sd R z p f e Γ ch rl dp ow Gt Ht q mr rk) {κ fd a : Nat} {df : Df} {Γ1 : Gm} {b : Int32} (hκ : κ < 2 ^ 31) (hfd : (D.take f)[fd]? = some df) (h51 : gI (L (k + 51)) κ = nI fd) (h53 : gI (L (k + 53)) κ = nI a) (hA : argR k e.2.1.length L B0 Q df.2.1 (Γ p) b a Γ1) (h0 : (Γ p)[0]? = some (2, df.2.2)) (u : Nat) (c : Int64) :
    OUT sp k h md D L B0 J0 F np dn z p (dsK I F (nI p) (nI κ) (nI fd) 311) (goK B J p u (nI fd) b c 49) := by
  have hga := fun vc => ga_ok S (df := df) (vc := vc) hκ h51 h53
  obtain ⟨k1, k2, k3, k4, k5, k6, k7, k8, k9⟩ := st_hk S
  obtain ⟨s1, s2, s3, s4, s5, s6, s7, s8, s9, s10, s11, s12, s13, s14, ⟨t1, t2, t3, t4, t5, t6, t7, t8⟩, s15, s16⟩ := S
  obtain ⟨n1, n2, n3, n4, n5, n6, n7, n8, n9, n10, n11, n12⟩ := s7
  obtain ⟨⟨z1, z2, z3, z4, z5, z6, z7⟩, z8⟩ := s6
  obtain ⟨g1, g2, g3, g4, g5, g6, g7, g8, g9⟩ := z8 p t1
  have hDfd : D[fd]? = some df := by
    have hl := (List.getElem?_eq_some_iff.mp hfd).1
    rw [List.getElem?_take] at hfd
    split at hfd
    · exact hfd
    · cases hfd
  obtain ⟨o1, o2, o3, u1, κ1, l1, m1, Q1, Rn1, Rc1, o4, o5, o6, o7⟩ := bk_go s1 hDfd
  have hL : (L (k + 19)).length ≤ 1000 := s1.2.2.2.2.2.2.2.2.1.1
  have hL9 : (L (k + 59)).length ≤ 500 := s1.2.2.2.2.2.2.2.2.1.2.2.2.2.1
  obtain ⟨src, vc, vr, r1, r2, r3, r4, r5, r6, r7⟩ := ar_ok (sc := fun i => gI (R 176) (p * 85 + i)) (sr := fun i => B 218 (128 * p + sg e.2.1.length i)) k1 k2 k4 hL hL9 _ _ _ _ _ hA t6 (fun j hj => by obtain ⟨t, ht⟩ := hj; exact t8.1 j t ht)
  have hle := o2.1
  obtain ⟨I1, R1, a1, a2, a3, a4, a5, a6⟩ := hga vc o1 o2 r6
  obtain ⟨I', R', b1, b2, b3, b4, b5, b6, b7, b8, b9, b10, b11⟩ := gn_ok s3 a2 a3 k2 o1 o5 o2 a4 (by omega) (by rw [a5 176 (by omega)]; omega)
  rw [a5 164 (by omega)] at b4
  rw [a5 166 (by omega)] at b5
  rw [a5 172 (by omega)] at b6
  rw [a5 176 (by omega)] at b7 b9
  obtain ⟨B1, c1, c2, c3, c4, c5⟩ := ts_ok (p2 := p) k2 r7 s2.1 (fun i _ => rfl) k9 hle (nI fd)
  have h31' : a_u2 B1 217 p (nI (cch df.2.1)) 186 31 = nI h := by rw [a_u2_n _ _ (by omega), c5 _ _ (by omega) (by omega) (by omega) (by omega)]; exact k6
  have hen := en_ok (B := a_u2 B1 217 p (nI (cch df.2.1))) (p := p) k2 k7 h31' o1
  obtain ⟨B', hB'⟩ : ∃ B', B' = a_u2 (a_u2 (a_u2 B1 217 p (nI (cch df.2.1))) 212 p (nI fd)) 213 p (a_u2 B1 217 p (nI (cch df.2.1)) 201 (12 * h + fd)) := ⟨_, rfl⟩
  rw [← hB'] at hen
  have f1 : ∀ q i, ¬ ((q = 217 ∨ q = 212 ∨ q = 213) ∧ i = p) → B' q i = B1 q i := fun q i w => by rw [hB', a_u2_n _ _ (by omega), a_u2_n _ _ (by omega), a_u2_n _ _ (by omega)]
  have fB : ∀ q i, ¬ (q = 186 ∧ i = 76) → q ≠ 229 → q ≠ 230 → ¬ (q = 218 ∧ 128 * p ≤ i ∧ i ≤ 128 * p + df.2.1.length) → ¬ ((q = 217 ∨ q = 212 ∨ q = 213) ∧ i = p) → B' q i = B q i := fun q i w1 w2 w3 w4 w5 => by rw [f1 q i w5, c5 q i w1 w2 w3 w4]
  have e217 : B' 217 p = nI (cch df.2.1) := by rw [hB', a_u2_n _ _ (by omega), a_u2_n _ _ (by omega), a_u2_s]
  have e212 : B' 212 p = nI fd := by rw [hB', a_u2_n _ _ (by omega), a_u2_s]
  have e213 : B' 213 p = nI u1 := by rw [hB', a_u2_s, a_u2_n _ _ (by omega), c5 _ _ (by omega) (by omega) (by omega) (by omega), s2.1 201 (by omega) (by omega), o4]
  have fR : ∀ a, a ≠ 164 → a ≠ 166 → a ≠ 172 → a ≠ 176 → a ≠ 178 → R' a = R a := fun a w1 w2 w3 w4 w5 => by rw [b10 a w1 w2 w3 w4, a5 a w5]
  have f148 : I' 148 = I 148 := by rw [b11 148 (by omega), a6]
  have r176 : ∀ i, ¬ (p * 85 + 1 ≤ i ∧ i < p * 85 + 85) → gI (R' 176) i = gI (R 176) i := fun i hi => b9 i (fun j hj => by omega)
  have vlen : vc.length = df.2.1.length := r2
  obtain ⟨ow', hT'⟩ := ty_go s9 t1 t2 r1 h0
  rw [← fR 158 (by omega) (by omega) (by omega) (by omega) (by omega), ← fR 160 (by omega) (by omega) (by omega) (by omega) (by omega), show (fun x => gI (R 168) x = 0) = (fun x => gI (R' 168) x = 0) by rw [fR 168 (by omega) (by omega) (by omega) (by omega) (by omega)]] at hT'
  refine ⟨I', B', J, R', nm, sd, ?_, ?_, s1, ⟨fun q w1 w2 => ?_, s2.2.1, by rw [fB _ _ (by omega) (by omega) (by omega) (by omega) (by omega)]; exact s2.2.2.1, by rw [fB _ _ (by omega) (by omega) (by omega) (by omega) (by omega)]; exact s2.2.2.2.1, by rw [f1 _ _ (by omega)]; exact c4⟩, s3, b2, b3, ⟨⟨by rw [b4, List.length_set]; exact z1, by rw [b5, List.length_set]; exact z2, by rw [fR 168 (by omega) (by omega) (by omega) (by omega) (by omega)]; exact z3, by rw [fR 170 (by omega) (by omega) (by omega) (by omega) (by omega)]; exact z4, by rw [b6, List.length_set]; exact z5, by rw [fR 174 (by omega) (by omega) (by omega) (by omega) (by omega)]; exact z6, by rw [b7]; exact z7⟩, fun x hx => ?_⟩, ⟨by rw [fB _ _ (by omega) (by omega) (by omega) (by omega) (by omega)]; exact n1, by rw [fB _ _ (by omega) (by omega) (by omega) (by omega) (by omega)]; exact n2, by rw [f148]; exact n3, by rw [fB _ _ (by omega) (by omega) (by omega) (by omega) (by omega)]; exact n4, n5, n6, by rw [fB _ _ (by omega) (by omega) (by omega) (by omega) (by omega)]; exact n7, by rw [f148]; exact n8, by rw [fB _ _ (by omega) (by omega) (by omega) (by omega) (by omega)]; exact n9, n10, by rw [f148, fB _ _ (by omega) (by omega) (by omega) (by omega) (by omega)]; exact n11, by rw [fB _ _ (by omega) (by omega) (by omega) (by omega) (by omega)]; exact n12⟩, ?_, _, _, rl, dp, ow', Gt, Ht, q, mr, rk, hT', chc_keep s10 (fR 150 (by omega) (by omega) (by omega) (by omega) (by omega)) (fun i => fB _ _ (by omega) (by omega) (by omega) (by omega) (by omega)), fun x hx => by rw [fR 168 (by omega) (by omega) (by omega) (by omega) (by omega)]; exact s11 x hx, chl_keep s12 (fun a w1 w2 => fR a (by omega) (by omega) (by omega) (by omega) (by omega)), qal_keep s13 (fun a w1 w2 => fR a (by omega) (by omega) (by omega) (by omega) (by omega)) (fun a i w1 w2 => fB _ _ (by omega) (by omega) (by omega) (by omega) (by omega)) (fun _ => rfl), fun x hx hal => ?_⟩
  · unfold dsK
    rw [if_neg (by decide), if_neg (by decide), if_neg (by decide), if_neg (by decide), if_neg (by decide), if_neg (by decide), if_neg (by decide), if_neg (by decide), if_pos rfl, a1, sb, b1, sb]
  · unfold goK
    rw [if_neg (by decide), if_neg (by decide), if_neg (by decide), if_neg (by decide), if_neg (by decide), if_neg (by decide), if_neg (by decide), if_neg (by decide), if_neg (by decide), if_pos rfl, c1, sb]
    show (mX12_enters (a_u2 B1 217 p (nI (cch df.2.1))) (nI p) (nI fd)).bind _ = _
    rw [hen, sb]
  · rw [← s2.1 q w1 w2]
    exact funext fun i => fB _ _ (by omega) (by omega) (by omega) (by omega) (by omega)
  · obtain ⟨y1, y2, y3, y4, y5, y6, y7, y8, y9⟩ := z8 x hx
    rw [fR 168 (by omega) (by omega) (by omega) (by omega) (by omega), fR 170 (by omega) (by omega) (by omega) (by omega) (by omega), fR 174 (by omega) (by omega) (by omega) (by omega) (by omega), fB 219 x (by omega) (by omega) (by omega) (by omega) (by omega), fB 215 x (by omega) (by omega) (by omega) (by omega) (by omega), fB 216 x (by omega) (by omega) (by omega) (by omega) (by omega), fB 214 x (by omega) (by omega) (by omega) (by omega) (by omega), r176 (x * 85) (by omega)]
    by_cases e0 : x = p
    · subst e0
      rw [e212, e217, b4, b6, gI_se (by omega), gI_se (by omega)]
      exact ⟨y1, y2, y3, y4, y5, rfl, fun _ => rfl, fun w => by rw [t2] at w; exact absurd w (by decide), y9⟩
    · rw [b4, b6, gI_sn e0, gI_sn e0, fB 212 x (by omega) (by omega) (by omega) (by omega) (by omega), fB 217 x (by omega) (by omega) (by omega) (by omega) (by omega)]
      exact ⟨y1, y2, y3, y4, y5, y6, y7, y8, y9⟩
  · unfold SAI
    rw [fR 182 (by omega) (by omega) (by omega) (by omega) (by omega), fR 184 (by omega) (by omega) (by omega) (by omega) (by omega)]
    refine ⟨s8.1, s8.2.1, fun i hi => ?_⟩
    rw [fB _ _ (by omega) (by omega) (by omega) (by omega) (by omega), fB _ _ (by omega) (by omega) (by omega) (by omega) (by omega)]
    exact s8.2.2 i hi
  · by_cases e0 : x = p
    · subst e0
      rw [a_u1_s]
      have hsg0 : sg df.2.1.length 0 = df.2.1.length := rfl
      refine ⟨fd, df, u1, κ1, l1, m1, Q1, Rn1, Rc1, hDfd, by rw [b4]; exact gI_se (by omega) _, by rw [b5]; exact gI_se (by omega) _, e213, o7, o6, by rw [List.length_cons]; exact Nat.le_refl _, by rw [List.length_cons]; omega, o3, fun i t hi => ?_, fun i t hi => ?_, fun hz => absurd rfl hz.2⟩
      · cases i with
        | zero => exact absurd (congrArg Prod.fst (Option.some.inj hi)) (show (2 : Nat) ≠ 1 by omega)
        | succ j =>
          have hj : df.2.1[j]? = some (1, t) := hi
          have hjl := (List.getElem?_eq_some_iff.mp hj).1
          have hsg := sg_spec df.2.1.length (j + 1)
          have e1 : sg df.2.1.length (j + 1) = j := by omega
          rw [e1, show x * 85 + (j + 1) = x * 85 + (1 + j) by omega, b8 j (by omega), f1 _ _ (by omega), c2 j hjl]
          exact r4 j t hj
      · cases i with
        | zero =>
          refine ⟨x, x, by rw [Nat.add_zero, r176 _ (by omega)]; exact g9, by rw [hsg0, f1 _ _ (by omega), c3]; exact g5, hx, hx, rfl, rfl⟩
        | succ j =>
          have hj : df.2.1[j]? = some (2, t) := hi
          have hjl := (List.getElem?_eq_some_iff.mp hj).1
          have hsg := sg_spec df.2.1.length (j + 1)
          have e1 : sg df.2.1.length (j + 1) = j := by omega
          obtain ⟨q1, q2⟩ := r5 j t hj
          obtain ⟨q3, q4⟩ := r1.1 j t hj
          obtain ⟨x', y', x1, x2, x3, x4, x5, x6⟩ := t8.2 _ _ q4
          have ec : chX rl (fun y i => if y = x then ch x (src (i - 1)) else ch y i) x (j + 1) = chX rl ch x (src j) := by
            unfold chX
            rw [if_neg (by omega), if_neg (by omega)]
            show (if x = x then ch x (src (j + 1 - 1)) else ch x (j + 1)) = ch x (src j)
            rw [if_pos rfl, Nat.add_sub_cancel]
          refine ⟨x', y', ?_, ?_, x3, x4, by rw [ec]; exact x5, by rw [ec]; exact x6⟩
          · rw [show x * 85 + (j + 1) = x * 85 + (1 + j) by omega, b8 j (by omega), q1]
            exact x1
          · rw [e1, f1 _ _ (by omega), c2 j hjl, q2]
            exact x2
    · rw [a_u1_n _ _ e0]
      have hal' : gI (R 168) x = 0 := by rw [← fR 168 (by omega) (by omega) (by omega) (by omega) (by omega)]; exact hal
      exact prc_keep (σ := id) (s14 x hx e0 hal') (fun f e hf => (bk_def s1 hf).2.1) (by rw [b4]; exact gI_sn e0 _) (by rw [b5]; exact gI_sn e0 _) (fB _ _ (by omega) (by omega) (by omega) (by omega) (by omega)) (fun i hi => r176 _ (by omega)) (fun i hi => fB _ _ (by omega) (by omega) (by omega) (by omega) (by omega)) (Nat.le_refl _) (fun x _ => rfl) (fun i t _ => by
        unfold chX
        show (if i = 0 then rl x else if x = p then ch p (src (i - 1)) else ch x i) = (if i = 0 then rl x else ch x i)
        rw [if_neg e0]) (fun hz => hz.1)
end
