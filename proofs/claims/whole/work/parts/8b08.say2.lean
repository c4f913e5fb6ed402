/-! ONE STEP: say, close, send (pure) -/
section
variable {sp : Int32} {k h md : Nat} {D : List Df} {L : lT} {B0 : iT} {J0 : jT} {F : fT} {I B : iT} {J : jT} {np nm dn sd : Nat} {R : lT} {z : Nat → Prop} {p f : Nat} {e : Df} {Γ : Nat → Gm} {ch : Nat → Nat → Nat} {rl dp : Nat → Nat} {ow : Nat → Nat × Nat × Nat} {Gt Ht : Nat → Nat} {q : Nat → List Nat} {mr rk : Nat → Nat} {Q Rn Rc : Nat → Prop}
theorem k_say (S : STR1 sp k h md D L B0 J0 F I B J np nm dn sd R z p f e Γ ch rl dp ow Gt Ht q mr rk) {κ u' l' m ex root f1 d : Nat} (h166 : gI (R 166) p = nI (κ + 1)) (h213 : B 213 p = nI u') (hPR : PR k e.2.1.length (D.take f) L B0 J0 Q Rn Rc m u' (κ + 1) l' (Γ p)) (hm : m ≤ 250 ∧ QH B0 Q) (hE : ER k e.2.1.length (nsG (Γ p)) L B0 Q d ex root f1 28) (u : Nat) (b : Int32) (c : Int64) :
    OUT sp k h md D L B0 J0 F np dn z p (dsK I F (nI p) (nI κ) (nI root) 314) (goK B J p u (nI ex) b c 51) := by
  obtain ⟨v, I1, B1, a1, b1, a2, a3, a4, b2, b3⟩ := num_ok S hE
  obtain ⟨k1, k2, k3, k4, k5, k6, k7, k8, k9⟩ := st_hk S
  have S0 := S
  obtain ⟨s1, s2, s3, s4, s5, s6, s7, s8, s9, s10, s11, s12, s13, s14, ⟨t1, t2, t3, t4, t5, t6, t7, t8⟩, s15, s16⟩ := S
  obtain ⟨n1, n2, n3, n4, n5, n6, n7, n8, n9, n10, n11, n12⟩ := s7
  obtain ⟨I', R', c1, c2, c3, c4, c5, c6, c7, c8⟩ := kp_ok a3 ⟨s8.1, s8.2.1⟩ (by rw [a4]; exact n8) k2 v
  obtain ⟨B', d1, d2, d3, d4, d5⟩ := sy_ok (B := B1) (sd := sd) (by rw [b2 _ _ (by omega) (by omega)]; exact n9) (by omega) k2 v
  have fB : ∀ q i, ¬ (q = 186 ∧ (i = 63 ∨ i = 76)) → q ≠ 229 → ¬ (q = 216 ∧ i = p) → ¬ (q = 227 ∨ q = 228) → B' q i = B q i := fun q i w1 w2 w3 w4 => by rw [d5 q i (by omega) w3 (by omega), b2 q i (by omega) w2]
  have f14 : ∀ i, i ≠ 13 → I' 148 i = I 148 i := fun i hi => by rw [c8 148 i (by omega) (by omega), a4]
  obtain ⟨⟨z1, z2, z3, z4, z5, z6, z7⟩, z8⟩ := s6
  obtain ⟨g1, g2, g3, g4, g5, g6, g7, g8, g9⟩ := z8 p t1
  have g174 : gI (R' 174) p = gI (R 174) p + 1 := by rw [c4]; exact gI_se (by omega) _
  have hT' := s9
  rw [← c7 158 (by omega) (by omega) (by omega), ← c7 160 (by omega) (by omega) (by omega), show (fun x => gI (R 168) x = 0) = (fun x => gI (R' 168) x = 0) by rw [c7 168 (by omega) (by omega) (by omega)], ← a_u1_id (f := Γ) (a := p) (v := Γ p) rfl] at hT'
  refine ⟨I', B', J, R', nm, sd + 1, ?_, ?_, out9 S0 (rk_keep a2 (fun a w1 w2 => funext fun i => c8 a i (by omega) (by omega))) c2 (fun q i hq => fB q i (by omega) (by omega) (by omega) (by omega)) (by rw [d5 _ _ (by omega) (by omega) (by omega)]; exact b3) (fun _ _ _ => rfl) ⟨fun a ha => c7 a (by omega) (by omega) (by omega), fun a ha => ?_, fun a j ha hj => ?_, fun j _ => by rw [c7 176 (by omega) (by omega) (by omega)], by rw [c7 176 (by omega) (by omega) (by omega)]⟩ ⟨by rw [fB _ _ (by omega) (by omega) (by omega) (by omega)]; exact n1, by rw [fB _ _ (by omega) (by omega) (by omega) (by omega)]; exact n2, by rw [f14 _ (by omega)]; exact n3, by rw [fB _ _ (by omega) (by omega) (by omega) (by omega)]; exact n4, n5, n6, by rw [fB _ _ (by omega) (by omega) (by omega) (by omega)]; exact n7, c3, d2, by omega, by rw [f14 _ (by omega), fB _ _ (by omega) (by omega) (by omega) (by omega)]; exact n11, by rw [fB _ _ (by omega) (by omega) (by omega) (by omega)]; exact n12⟩ ?_ ?_ hT' (fun _ _ _ => rfl) (by rw [c7 168 (by omega) (by omega) (by omega)]; exact Nat.le_refl _) (chl_keep s12 (fun a _ _ => c7 a (by omega) (by omega) (by omega))) (qal_keep s13 (fun a _ _ => c7 a (by omega) (by omega) (by omega)) (fun a i _ _ => fB a i (by omega) (by omega) (by omega) (by omega)) (fun _ => rfl)) (fun _ => ⟨u', κ + 1, l', m, Q, Rn, Rc, by rw [c7 166 (by omega) (by omega) (by omega)]; exact h166, by rw [fB _ _ (by omega) (by omega) (by omega) (by omega)]; exact h213, hPR, hm, t5, t6, t7, slx_keep t8 k4 t6 (fun i s t _ hi => ⟨t, hi⟩) (fun i _ => by rw [c7 176 (by omega) (by omega) (by omega)]) (fun i _ => fB _ _ (by omega) (by omega) (by omega) (by omega))⟩)⟩
  · unfold dsK
    rw [if_neg (by decide), if_neg (by decide), if_neg (by decide), if_neg (by decide), if_neg (by decide), if_neg (by decide), if_neg (by decide), if_neg (by decide), if_neg (by decide), if_neg (by decide), if_neg (by decide), if_pos rfl, a1, sb]
    show (mX6_keepSaid I1 (nI p) v).bind _ = _
    rw [c1, sb]
  · unfold goK
    rw [if_neg (by decide), if_neg (by decide), if_neg (by decide), if_neg (by decide), if_neg (by decide), if_neg (by decide), if_neg (by decide), if_neg (by decide), if_neg (by decide), if_neg (by decide), if_neg (by decide), b1, sb]
    show (mX12_says B1 (nI p) v).bind _ = _
    rw [d1, sb]
  · by_cases e4 : a = 174
    · subst e4; rw [c4, List.length_set]
    · rw [c7 a e4 (by omega) (by omega)]
  · by_cases e4 : a = 174
    · subst e4; rw [c4]; exact gI_sn hj _
    · rw [c7 a e4 (by omega) (by omega)]
  · obtain ⟨y1, y2, y3⟩ := s8
    by_cases c200 : sd < 200
    · rw [if_pos c200] at c5 c6
      obtain ⟨e1, e2⟩ := d4 c200
      refine ⟨by rw [c5, List.length_append, y1, List.length_singleton]; omega, by rw [c6, List.length_append, y2, List.length_singleton]; omega, fun i hi => ?_⟩
      rw [c5, c6]
      by_cases ei : i = sd
      · subst ei
        rw [gI_la (by omega), gI_la (by omega), e1, e2]
        exact ⟨rfl, rfl⟩
      · rw [gI_l _ (by omega), gI_l _ (by omega), d5 _ _ (by omega) (by omega) (by omega), d5 _ _ (by omega) (by omega) (by omega), b2 _ _ (by omega) (by omega), b2 _ _ (by omega) (by omega)]
        exact y3 i (by omega)
    · rw [if_neg c200] at c5 c6
      refine ⟨by rw [c5, y1]; omega, by rw [c6, y2]; omega, fun i hi => ?_⟩
      rw [c5, c6, d5 _ _ (by omega) (by omega) (by omega), d5 _ _ (by omega) (by omega) (by omega), b2 _ _ (by omega) (by omega), b2 _ _ (by omega) (by omega)]
      exact y3 i (by omega)
  · rw [c7 168 (by omega) (by omega) (by omega), c7 172 (by omega) (by omega) (by omega), g174, d3, fB 219 _ (by omega) (by omega) (by omega) (by omega), fB 217 _ (by omega) (by omega) (by omega) (by omega), b2 216 _ (by omega) (by omega), g4]
    exact ⟨g1, g2, rfl, g7, g8⟩
theorem fin_ok {I : iT} {R : lT} (hN : RN I R) {p : Nat} (hp : p < 80) : ∃ I' R', mX6_finish I (nI p) = some I' ∧ RN I' R' ∧ R' 168 = (R 168).set p 1 ∧ R' 172 = (R 172).set p 0 ∧ (∀ a, a ≠ 168 → a ≠ 172 → R' a = R a) ∧ ∀ q, ¬ (168 ≤ q ∧ q ≤ 173) → I' q = I q := by
  obtain ⟨I1, a1, a2, a3⟩ := rn_put hN (a := 168) (by unfold rnA; omega) (j := p) (by omega) 1
  obtain ⟨I2, b1, b2, b3⟩ := rn_put a2 (a := 172) (by unfold rnA; omega) (j := p) (by omega) 0
  refine ⟨I2, _, ?_, b2, ?_, ?_, fun a w1 w2 => ?_, fun q w => ?_⟩
  · unfold mX6_finish
    rw [a1, sb, b1, sb]
  · rw [upL_n _ _ (by omega), upL_s]
  · rw [upL_s, upL_n _ _ (by omega)]
  · rw [upL_n _ _ w2, upL_n _ _ w1]
  · rw [b3 q (by omega) (by omega), a3 q (by omega) (by omega)]
theorem k_close (S : STR1 sp k h md D L B0 J0 F I B J np nm dn sd R z p f e Γ ch rl dp ow Gt Ht q mr rk) {t κ : Nat} (hκ : κ < 2 ^ 31) (hΓ : (Γ p)[0]? = some (2, t)) (h49 : gI (L (k + 49)) κ = 0) (hK : gI (L (k + 2)) t = 302) (u : Nat) (a b : Int32) (c : Int64) :
    OUT sp k h md D L B0 J0 F np dn z p (dsK I F (nI p) (nI κ) a 315) (goK B J p u (nI e.2.1.length) b c 40) := by
  have hcl := cl_lay S hκ hΓ h49 S.2.2.2.1 S.2.2.2.2.1 3 0
  have hwr := (wr_st S hΓ).1
  obtain ⟨k1, k2, k3, k4, k5, k6, k7, k8, k9⟩ := st_hk S
  have S0 := S
  obtain ⟨s1, s2, s3, s4, s5, s6, s7, s8, s9, s10, s11, s12, s13, s14, ⟨t1, t2, t3, t4, t5, t6, t7, t8⟩, s15, s16⟩ := S
  obtain ⟨n1, n2, n3, n4, n5, n6, n7, n8, n9, n10, n11, n12⟩ := s7
  obtain ⟨I1, R1, B1, J', a1, a2, a3, a4, a5, a6, a7, a8, a9, a10, a11, a12⟩ := layx s9 s5 s12 s13 n7 (by omega) t1 t2 hΓ 3 0 0 0 (Or.inr (Or.inr (Or.inr ⟨rfl, rfl, rfl, rfl⟩)))
  obtain ⟨I', R', b1, b2, b3, b4, b5, b6⟩ := fin_ok a3 k2
  rw [a8 168 (by omega)] at b3
  rw [a8 172 (by omega)] at b4
  obtain ⟨⟨z1, z2, z3, z4, z5, z6, z7⟩, z8⟩ := s6
  obtain ⟨g1, g2, g3, g4, g5, g6, g7, g8, g9⟩ := z8 p t1
  have fR : ∀ a, ¬ (152 ≤ a ∧ a ≤ 162) → a ≠ 168 → a ≠ 172 → R' a = R a := fun a w1 w2 w3 => by rw [b5 a w2 w3, a8 a w1]
  have fB : ∀ q i, ¬ (q = 186 ∧ i = 64) → ¬ (221 ≤ q ∧ q ≤ 225) → ¬ (q = 219 ∧ i = p) → a_u2 B1 219 p 1 q i = B q i := fun q i w1 w2 w3 => by rw [a_u2_n _ _ w3, a11 q i w1 w2]
  have f148 : I' 148 = I 148 := by rw [b6 148 (by omega), a9 148 (by omega)]
  have e168 : gI (R' 168) p = 1 := by rw [b3]; exact gI_se (by omega) _
  have hT' := ty_put s9 t1 t2 hΓ (t' := 5000) (kn := 3) (vn := 0) (G' := (Γ p).set 0 (2, 5000)) (by decide) (fun _ => ⟨by rw [hK]; exact Or.inr (Or.inr (Or.inr rfl)), Or.inr (Or.inr (Or.inr ⟨trivial, a_u1_s _ _ _, hK, rfl⟩))⟩) (fun h => absurd rfl h) (al' := fun x => gI (R' 168) x = 0) (fun x hx => by
    have hx' : gI (R' 168) x = 0 := hx
    by_cases e0 : x = p
    · subst e0; rw [e168] at hx'; exact absurd hx' (by decide)
    · rw [b3, gI_sn e0] at hx'; exact hx') (gs_set hΓ)
  rw [← a6, ← a7, ← b5 158 (by omega) (by omega), ← b5 160 (by omega) (by omega)] at hT'
  refine ⟨I', a_u2 B1 219 p 1, J', R', nm + 1, sd, ?_, ?_, out9 S0 (rk_keep s4 (fun a w1 w2 => by rw [b6 a (by omega), a9 a (by omega)])) b2 (fun q i hq => fB q i (by omega) (by omega) (by omega)) (by rw [fB _ _ (by omega) (by omega) (by omega)]; exact k9) a12 ⟨fun a ha => fR a (by omega) (by omega) (by omega), fun a ha => ?_, fun a j ha hj => ?_, fun j _ => by rw [fR _ (by omega) (by omega) (by omega)], by rw [fR _ (by omega) (by omega) (by omega)]⟩ ⟨by rw [fB _ _ (by omega) (by omega) (by omega)]; exact n1, by rw [fB _ _ (by omega) (by omega) (by omega)]; exact n2, by rw [f148]; exact n3, by rw [fB _ _ (by omega) (by omega) (by omega)]; exact n4, n5, by omega, by rw [a_u2_n _ _ (by omega)]; exact a10, by rw [f148]; exact n8, by rw [fB _ _ (by omega) (by omega) (by omega)]; exact n9, n10, by rw [f148, fB _ _ (by omega) (by omega) (by omega)]; exact n11, by rw [fB _ _ (by omega) (by omega) (by omega)]; exact n12⟩ ?_ ?_ hT' (fun _ _ _ => rfl) (by rw [b3, cO_set t2 (by omega)]; omega) (chl_keep a4 (fun a _ _ => b5 a (by omega) (by omega))) (qal_keep a5 (fun a _ _ => b5 a (by omega) (by omega)) (fun a i _ _ => a_u2_n _ _ (by omega)) (fun _ => rfl)) (fun y => by rw [e168] at y; exact absurd y (by decide))⟩
  · unfold dsK
    rw [if_neg (by decide), if_neg (by decide), if_neg (by decide), if_neg (by decide), if_neg (by decide), if_neg (by decide), if_neg (by decide), if_neg (by decide), if_neg (by decide), if_neg (by decide), if_neg (by decide), if_neg (by decide), if_pos rfl, hcl, a1, sb, b1, sb]
  · unfold goK
    have e0 : sg e.2.1.length 0 = e.2.1.length := rfl
    rw [e0] at hwr
    rw [if_pos rfl, hwr, sb, a2, sb]
  · rcases ha with e4 | e4 | e4 | e4 | e4
    · rw [fR a (by omega) (by omega) (by omega)]
    · subst e4; rw [b3, List.length_set]
    · subst e4; rw [b4, List.length_set]
    · rw [fR a (by omega) (by omega) (by omega)]
    · rw [fR a (by omega) (by omega) (by omega)]
  · rcases ha with e4 | e4 | e4 | e4
    · rw [fR a (by omega) (by omega) (by omega)]
    · subst e4; rw [b3]; exact gI_sn hj _
    · subst e4; rw [b4]; exact gI_sn hj _
    · rw [fR a (by omega) (by omega) (by omega)]
  · unfold SAI
    rw [fR _ (by omega) (by omega) (by omega), fR _ (by omega) (by omega) (by omega)]
    refine ⟨s8.1, s8.2.1, fun i hi => ?_⟩
    rw [fB _ _ (by omega) (by omega) (by omega), fB _ _ (by omega) (by omega) (by omega)]
    exact s8.2.2 i hi
  · rw [e168, fR 174 (by omega) (by omega) (by omega), fB 216 _ (by omega) (by omega) (by omega), a_u2_s, b4]
    exact ⟨Or.inr rfl, rfl, g4, fun y => absurd y (by decide), fun _ => gI_se (by omega) _⟩
end
