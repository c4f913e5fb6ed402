/-! ONE STEP: get, wait, take (pure) -/
section
variable {sp : Int32} {k h md : Nat} {D : List Df} {L : lT} {B0 : iT} {J0 : jT} {F : fT} {I B : iT} {J : jT} {np nm dn sd : Nat} {R : lT} {z : Nat → Prop} {p f : Nat} {e : Df} {Γ : Nat → Gm} {ch : Nat → Nat → Nat} {rl dp : Nat → Nat} {ow : Nat → Nat × Nat × Nat} {Gt Ht : Nat → Nat} {q : Nat → List Nat} {mr rk : Nat → Nat} {Q Rn Rc : Nat → Prop}
theorem mcl_0 {rl : Nat → Nat} {m : Nat} (H : MCL np rl R B J m) (h : gI (R 158) m = 0) : gI (R 160) m = B 224 m := by
  rcases H.2 with ⟨_, e, _⟩ | ⟨e, _⟩ | ⟨e, _⟩ | ⟨e, _⟩
  · exact e
  all_goals rw [h] at e; exact absurd e (by decide)
theorem mcl_1 {rl : Nat → Nat} {m : Nat} (H : MCL np rl R B J m) (h : gI (R 158) m = 1) : ∃ v y, gI (R 160) m = nI v ∧ B 224 m = nI y ∧ v < np ∧ y < np ∧ rl y = v := by
  rcases H.2 with ⟨e, _⟩ | ⟨_, _, e⟩ | ⟨e, _⟩ | ⟨e, _⟩
  · rw [h] at e; exact absurd e (by decide)
  · exact e
  all_goals rw [h] at e; exact absurd e (by decide)
theorem mcl_2 {rl : Nat → Nat} {m : Nat} (H : MCL np rl R B J m) (h : gI (R 158) m = 2) : ∃ w, isN w ∧ gI (R 160) m = nI (cN w) ∧ J 226 m = lN (rN w) := by
  rcases H.2 with ⟨e, _⟩ | ⟨e, _⟩ | ⟨_, _, e⟩ | ⟨e, _⟩
  · rw [h] at e; exact absurd e (by decide)
  · rw [h] at e; exact absurd e (by decide)
  · exact e
  · rw [h] at e; exact absurd e (by decide)
theorem k_get (S : STR1 sp k h md D L B0 J0 F I B J np nm dn sd R z p f e Γ ch rl dp ow Gt Ht q mr rk) {i t t' κ u' l' m0 m : Nat} {l : List Nat} (hκ : κ < 2 ^ 31) (hΓ : (Γ p)[i]? = some (2, t)) (h49 : gI (L (k + 49)) κ = nI i) (h51 : gI (L (k + 51)) κ = nI (Γ p).length) (h47 : gI (L (k + 47)) κ = 304) (hlen : (Γ p).length < 85) (h166 : gI (R 166) p = nI (κ + 1)) (h213 : B 213 p = nI u') (hPR : PR k e.2.1.length (D.take f) L B0 J0 Q Rn Rc m0 u' (κ + 1) l' ((Γ p).set i (2, t') ++ [(1, 0)])) (hm : m0 ≤ 250 ∧ QH B0 Q) (hK : gI (L (k + 2)) t = (if i = 0 then 63 else 33)) (h6 : gI (L (k + 6)) t = nI t') (ht' : t' < 1000) (hq : q (rdX rl ch p i) = m :: l) (u : Nat) (b : Int32) (c : Int64) :
    OUT sp k h md D L B0 J0 F np dn z p (dsK I F (nI p) (nI κ) b 304) (goK B J p u (nI (sg e.2.1.length i)) (nI (Γ p).length) c 43) := by
  obtain ⟨I1, R1, B1, a1, a2, a3, a4, a5, a6, a7, a8, a9, a10, a11, a12⟩ := tmk S hκ hΓ h49 hq
  have hrd := (wr_st S hΓ).2
  obtain ⟨k1, k2, k3, k4, k5, k6, k7, k8, k9⟩ := st_hk S
  have S0 := S
  obtain ⟨s1, s2, s3, s4, s5, s6, s7, s8, s9, s10, s11, s12, s13, s14, ⟨t1, t2, t3, t4, t5, t6, t7, t8⟩, s15, s16⟩ := S
  obtain ⟨⟨z1, z2, z3, z4, z5, z6, z7⟩, z8⟩ := s6
  obtain ⟨g1, g2, g3, g4, g5, g6, g7, g8, g9⟩ := z8 p t1
  have hil := (List.getElem?_eq_some_iff.mp hΓ).1
  have u0 : i = 0 → ∀ x, TMu k L (gI (R 158)) (gI (R 160)) Ht t m x → x = t' ∧ gI (R 158) m = 0 := fun i0 x hx => by
    rw [if_pos i0] at hK
    exact tm_one hx hK (by decide) (by decide) (by decide) h6 ht'
  have u1 : i ≠ 0 → ∀ x, TMd k L (gI (R 158)) (gI (R 160)) Ht t m x → x = t' ∧ gI (R 158) m = 0 := fun i0 x hx => by
    rw [if_neg i0] at hK
    exact tm_one hx hK (by decide) (by decide) (by decide) h6 ht'
  have hk0 : gI (R 158) m = 0 := by
    obtain ⟨tt, y1, y2⟩ := ty_head s9 t1 t2 hΓ hq
    by_cases i0 : i = 0
    · exact (u0 i0 tt (y1 i0)).2
    · exact (u1 i0 tt (y2 i0)).2
  have hv := mcl_0 a10 hk0
  have hX : TRX k L B0 J0 t' := by
    have hK1 : (L (k + 2)).length ≤ 1000 := s1.2.2.2.2.2.2.2.2.1.2.2.1
    by_cases i0 : i = 0
    · rw [if_pos i0] at hK
      exact trx_one (kd := 63) (t7 i t hΓ) hK1 hK (Or.inr rfl) h6 ht'
    · rw [if_neg i0] at hK
      exact trx_one (kd := 33) (t7 i t hΓ) hK1 hK (Or.inl rfl) h6 ht'
  obtain ⟨I', b1, b2, b3⟩ := sts_ok a4 k2 hlen (gI (R 160) m)
  have hsl : ((Γ p).set i (2, t')).length = (Γ p).length := List.length_set ..
  have hT' := ty_get s9 t1 t2 hΓ hq (fun i0 x hx => (u0 i0 x hx).1) (fun i0 x hx => (u1 i0 x hx).1) (gs_app (s := 1) (x := 0) (gs_set hΓ (t' := t')) (by omega) (by omega))
  have r176 : R1 176 = R 176 := a7 176 (by omega) (by omega)
  have fR : ∀ a, a ≠ 152 → a ≠ 156 → a ≠ 176 → upL R1 176 ((R1 176).set (p * 85 + (Γ p).length) (gI (R 160) m)) a = R a := fun a w1 w2 w3 => by rw [upL_n _ _ w3, a7 a w1 w2]
  have e176 : upL R1 176 ((R1 176).set (p * 85 + (Γ p).length) (gI (R 160) m)) 176 = (R 176).set (p * 85 + (Γ p).length) (gI (R 160) m) := by rw [upL_s, r176]
  have hB : a_u2 B1 218 (128 * p + (Γ p).length) (B1 224 m) 213 p = nI u' := by rw [a_u2_n _ _ (by omega), a9 _ _ (by omega)]; exact h213
  refine ⟨I', a_u2 B1 218 (128 * p + (Γ p).length) (B1 224 m), J, _, nm, sd, ?_, ?_, rcv_out S0 (rk_keep a3 (fun a w1 w2 => b3 a (by omega) (by omega))) b2 (by rw [b3 148 (by omega) (by omega)]; exact a8) (fun q i hq => by rw [a_u2_n _ _ (by omega), a9 q i (by omega)]) (fun a w1 w2 _ _ w5 => fR a w1 w2 w5) ⟨by rw [fR _ (by omega) (by omega) (by omega)], by rw [fR _ (by omega) (by omega) (by omega)], by rw [e176, List.length_set]⟩ ⟨fun j hj => by rw [fR _ (by omega) (by omega) (by omega), fR _ (by omega) (by omega) (by omega)]; exact ⟨rfl, rfl⟩, fun j hj => by rw [e176]; exact gI_sn (by omega) _⟩ ?_ hT' (fun _ _ _ => rfl) (chl_keep a5 (fun a _ _ => upL_n _ _ (by omega))) (qal_keep a6 (fun a _ _ => upL_n _ _ (by omega)) (fun a i _ _ => a_u2_n _ _ (by omega)) (fun _ => rfl)) (by rw [fR _ (by omega) (by omega) (by omega)]; exact h166) hB hPR hm (by rw [List.length_append, hsl]; omega) (by rw [List.length_append, hsl, List.length_singleton]; omega) (trx_app (trx_set hΓ hX t7) (fun y => absurd y (show (1 : Nat) ≠ 2 by omega))) (slx_new t8 k4 t5 hlen hsl (set_of hΓ) (fun _ _ => rfl) (fun i _ hi => by rw [e176]; exact gI_sn (by omega) _) (fun i _ hi => by rw [a_u2_n _ _ (by omega), a9 _ _ (by omega)]) (fun _ => ?_) (fun y => absurd y (show (1 : Nat) ≠ 2 by omega)))⟩
  · unfold dsK
    rw [if_neg (by decide), if_pos rfl, a1, h47]
    unfold tmK
    rw [if_neg (by decide), if_neg (by decide), if_neg (by decide), s3, rk_g a3 (by unfold rkA; omega) hκ, sb, h51, b1, sb, sb]
  · unfold goK
    rw [if_neg (by decide), if_neg (by decide), if_neg (by decide), if_pos rfl, hrd, sb, a2, sb]
    show (if inb (nI m) 700 then if inb ((128 * (nI p)) + nI (Γ p).length) 10240 then some (a_u2 B1 218 ((128 * (nI p)) + nI (Γ p).length).toNatClampNeg (B1 224 (nI m).toNatClampNeg), J) else none else none) = _
    rw [if_pos (in700 (by omega)), i128, if_pos (show inb (nI (128 * p + (Γ p).length)) 10240 from vp_in_nI (by omega) (by omega)), nI_clamp (by omega), cl700 (by omega)]
  · rw [fR 172 (by omega) (by omega) (by omega), a_u2_n _ _ (by omega), a9 _ _ (by omega)]
    exact g7 t2
  · rw [e176, gI_se (by omega), a_u2_s, hv, a9 _ _ (by omega)]
theorem k_wait (S : STR1 sp k h md D L B0 J0 F I B J np nm dn sd R z p f e Γ ch rl dp ow Gt Ht q mr rk) {i t κ u' l' m0 m : Nat} {l : List Nat} (hκ : κ < 2 ^ 31) (hΓ : (Γ p)[i]? = some (2, t)) (h49 : gI (L (k + 49)) κ = nI i) (h47 : gI (L (k + 47)) κ = 316) (hi : 1 ≤ i) (h166 : gI (R 166) p = nI (κ + 1)) (h213 : B 213 p = nI u') (hPR : PR k e.2.1.length (D.take f) L B0 J0 Q Rn Rc m0 u' (κ + 1) l' ((Γ p).set i (0, 0))) (hm : m0 ≤ 250 ∧ QH B0 Q) (hK : gI (L (k + 2)) t = 302) (hq : q (rdX rl ch p i) = m :: l) (u : Nat) (a b : Int32) (c : Int64) :
    OUT sp k h md D L B0 J0 F np dn z p (dsK I F (nI p) (nI κ) b 316) (goK B J p u (nI (sg e.2.1.length i)) a c 41) := by
  obtain ⟨I1, R1, B1, a1, a2, a3, a4, a5, a6, a7, a8, a9, a10, a11, a12⟩ := tmk S hκ hΓ h49 hq
  have hrd := (wr_st S hΓ).2
  obtain ⟨k1, k2, k3, k4, k5, k6, k7, k8, k9⟩ := st_hk S
  have S0 := S
  obtain ⟨s1, s2, s3, s4, s5, s6, s7, s8, s9, s10, s11, s12, s13, s14, ⟨t1, t2, t3, t4, t5, t6, t7, t8⟩, s15, s16⟩ := S
  obtain ⟨⟨z1, z2, z3, z4, z5, z6, z7⟩, z8⟩ := s6
  obtain ⟨g1, g2, g3, g4, g5, g6, g7, g8, g9⟩ := z8 p t1
  have hil := (List.getElem?_eq_some_iff.mp hΓ).1
  have hS0 : ∀ (j s tt : Nat), s ≠ 0 → ((Γ p).set i (0, 0))[j]? = some (s, tt) → j ≠ i ∧ (Γ p)[j]? = some (s, tt) := by
    intro j s tt hs hg
    rw [List.getElem?_set] at hg
    by_cases c : i = j
    · rw [if_pos c, if_pos hil] at hg
      exact absurd (congrArg Prod.fst (Option.some.inj hg)).symm hs
    · rw [if_neg c] at hg
      exact ⟨fun y => c y.symm, hg⟩
  obtain ⟨I', b1, b2, b3⟩ := rn_bump a4 (a := 172) (by unfold rnA; omega) (j := p) (by omega) (-1)
  have hT' := ty_wait s9 t1 t2 (show i ≠ 0 by omega) hΓ hq (t' := 5000) (fun x hx => tm_end hx hK (by decide) (by decide) (by decide)) (G' := (Γ p).set i (0, 0)) (fun j tt _ hg => hS0 j 2 tt (by omega) hg) (by rw [List.getElem?_set, if_neg (by omega)])
  have r172 : R1 172 = R 172 := a7 172 (by omega) (by omega)
  have fR : ∀ a, a ≠ 152 → a ≠ 156 → a ≠ 172 → upL R1 172 ((R1 172).set p (gI (R1 172) p + -1)) a = R a := fun a w1 w2 w3 => by rw [upL_n _ _ w3, a7 a w1 w2]
  have e172 : upL R1 172 ((R1 172).set p (gI (R1 172) p + -1)) 172 = (R 172).set p (gI (R 172) p + -1) := by rw [upL_s, r172]
  have fB : ∀ q i, q ≠ 221 → ¬ (q = 186 ∧ i = 78) → ¬ (q = 217 ∧ i = p) → a_u2 (a_u2 B1 186 78 (nI m)) 217 p (a_u2 B1 186 78 (nI m) 217 p - 1) q i = B q i := fun q i w1 w2 w3 => by rw [a_u2_n _ _ w3, a_u2_n _ _ w2, a9 q i w1]
  have hsl : ((Γ p).set i (0, 0)).length = (Γ p).length := List.length_set ..
  refine ⟨I', a_u2 (a_u2 B1 186 78 (nI m)) 217 p (a_u2 B1 186 78 (nI m) 217 p - 1), J, _, nm, sd, ?_, ?_, rcv_out S0 (rk_keep a3 (fun a w1 w2 => b3 a (by omega) (by omega))) b2 (by rw [b3 148 (by omega) (by omega)]; exact a8) (fun q i hq => fB q i (by omega) (by omega) (by omega)) (fun a w1 w2 _ w4 _ => fR a w1 w2 w4) ⟨by rw [fR _ (by omega) (by omega) (by omega)], by rw [e172, List.length_set], by rw [fR _ (by omega) (by omega) (by omega)]⟩ ⟨fun j hj => by rw [fR 166 (by omega) (by omega) (by omega), e172]; exact ⟨rfl, gI_sn hj _⟩, fun j hj => by rw [fR 176 (by omega) (by omega) (by omega)]⟩ ?_ hT' (fun _ _ _ => rfl) (chl_keep a5 (fun a _ _ => upL_n _ _ (by omega))) (qal_keep a6 (fun a _ _ => upL_n _ _ (by omega)) (fun a i _ _ => by rw [a_u2_n _ _ (by omega), a_u2_n _ _ (by omega)]) (fun _ => rfl)) (by rw [fR _ (by omega) (by omega) (by omega)]; exact h166) (by rw [fB _ _ (by omega) (by omega) (by omega)]; exact h213) hPR hm (by rw [hsl]; exact t5) (by rw [hsl]; exact t6) (fun j tt hj => t7 j tt (hS0 j 2 tt (by omega) hj).2) (slx_keep t8 k4 (by rw [hsl]; exact t6) (fun j s tt hs hj => ⟨tt, (hS0 j s tt hs hj).2⟩) (fun i _ => by rw [fR 176 (by omega) (by omega) (by omega)]) (fun i _ => fB _ _ (by omega) (by omega) (by omega)))⟩
  · unfold dsK
    rw [if_neg (by decide), if_neg (by decide), if_neg (by decide), if_neg (by decide), if_neg (by decide), if_neg (by decide), if_neg (by decide), if_neg (by decide), if_neg (by decide), if_neg (by decide), if_neg (by decide), if_neg (by decide), if_neg (by decide), a1, h47]
    unfold tmK
    rw [if_neg (by decide), if_neg (by decide), if_pos rfl, b1, sb, sb]
  · unfold goK
    rw [if_neg (by decide), if_pos rfl, hrd, sb, a2, sb]
  · rw [e172, gI_se (by omega), a_u2_s, a_u2_n _ _ (by omega), a9 _ _ (by omega), g7 t2, Int32.sub_eq_add_neg]
theorem k_take (S : STR1 sp k h md D L B0 J0 F I B J np nm dn sd R z p f e Γ ch rl dp ow Gt Ht q mr rk) {i t t1' t2' κ u' l' m0 m : Nat} {l : List Nat} (hκ : κ < 2 ^ 31) (hΓ : (Γ p)[i]? = some (2, t)) (h49 : gI (L (k + 49)) κ = nI i) (h51 : gI (L (k + 51)) κ = nI (Γ p).length) (h47 : gI (L (k + 47)) κ = 306) (hlen : (Γ p).length < 85) (h166 : gI (R 166) p = nI (κ + 1)) (h213 : B 213 p = nI u') (hPR : PR k e.2.1.length (D.take f) L B0 J0 Q Rn Rc m0 u' (κ + 1) l' ((Γ p).set i (2, t2') ++ [(2, t1')])) (hm : m0 ≤ 250 ∧ QH B0 Q) (hK : gI (L (k + 2)) t = (if i = 0 then 60 else 62)) (h4 : gI (L (k + 4)) t = nI t1') (h6 : gI (L (k + 6)) t = nI t2' ∧ t1' < 1000 ∧ t2' < 1000) (hq : q (rdX rl ch p i) = m :: l) (u : Nat) (b : Int32) (c : Int64) :
    OUT sp k h md D L B0 J0 F np dn z p (dsK I F (nI p) (nI κ) b 306) (goK B J p u (nI (sg e.2.1.length i)) (nI (Γ p).length) c 45) := by
  obtain ⟨I1, R1, B1, a1, a2, a3, a4, a5, a6, a7, a8, a9, a10, a11, a12⟩ := tmk S hκ hΓ h49 hq
  have hrd := (wr_st S hΓ).2
  obtain ⟨k1, k2, k3, k4, k5, k6, k7, k8, k9⟩ := st_hk S
  have S0 := S
  obtain ⟨s1, s2, s3, s4, s5, s6, s7, s8, s9, s10, s11, s12, s13, s14, ⟨t1, t2, t3, t4, t5, t6, t7, t8⟩, s15, s16⟩ := S
  obtain ⟨⟨z1, z2, z3, z4, z5, z6, z7⟩, z8⟩ := s6
  obtain ⟨g1, g2, g3, g4, g5, g6, g7, g8, g9⟩ := z8 p t1
  obtain ⟨h6, q1, q2⟩ := h6
  have hil := (List.getElem?_eq_some_iff.mp hΓ).1
  have u0 : i = 0 → ∀ x, TMu k L (gI (R 158)) (gI (R 160)) Ht t m x → x = t2' ∧ gI (R 158) m = 1 ∧ ∃ v, gI (R 160) m = nI v ∧ v < 80 ∧ gI (L (k + 4)) t = nI (Ht v) ∧ Ht v < 1000 := fun i0 x hx => by
    rw [if_pos i0] at hK
    exact tm_two hx hK (by decide) (by decide) (by decide) h6 q2
  have u1 : i ≠ 0 → ∀ x, TMd k L (gI (R 158)) (gI (R 160)) Ht t m x → x = t2' ∧ gI (R 158) m = 1 ∧ ∃ v, gI (R 160) m = nI v ∧ v < 80 ∧ gI (L (k + 4)) t = nI (Ht v) ∧ Ht v < 1000 := fun i0 x hx => by
    rw [if_neg i0] at hK
    exact tm_two hx hK (by decide) (by decide) (by decide) h6 q2
  have hk0 : gI (R 158) m = 1 ∧ ∃ v, gI (R 160) m = nI v ∧ v < 80 ∧ gI (L (k + 4)) t = nI (Ht v) ∧ Ht v < 1000 := by
    obtain ⟨tt, y1, y2⟩ := ty_head s9 t1 t2 hΓ hq
    by_cases i0 : i = 0
    · exact (u0 i0 tt (y1 i0)).2
    · exact (u1 i0 tt (y2 i0)).2
  obtain ⟨hk0, v, v1, v2, v3, v4⟩ := hk0
  have eHt : Ht v = t1' := by
    rw [h4] at v3
    exact ((nI_eq (by omega) (by omega)).mp v3).symm
  obtain ⟨v', y, w1, w2, w3, w4, w5⟩ := mcl_1 a10 hk0
  have ev : v' = v := by
    rw [v1] at w1
    have := s9.2.2.2.2.2.2.2
    exact ((nI_eq (by omega) (by omega)).mp w1).symm
  subst ev
  have hrv : rl v' = v' := by rw [← w5]; exact rl_root s10 w4
  have hX : TRX k L B0 J0 t2' ∧ TRX k L B0 J0 t1' := by
    have hK1 : (L (k + 2)).length ≤ 1000 := s1.2.2.2.2.2.2.2.2.1.2.2.1
    by_cases i0 : i = 0
    · rw [if_pos i0] at hK
      have := trx_two (kd := 60) (t7 i t hΓ) hK1 hK (Or.inr rfl) h4 h6 q1 q2
      exact ⟨this.2, this.1⟩
    · rw [if_neg i0] at hK
      have := trx_two (kd := 62) (t7 i t hΓ) hK1 hK (Or.inl rfl) h4 h6 q1 q2
      exact ⟨this.2, this.1⟩
  obtain ⟨I2, b1, b2, b3⟩ := rn_bump a4 (a := 172) (by unfold rnA; omega) (j := p) (by omega) 1
  have hK2 := rk_keep a3 (I' := I2) (fun a w1 w2 => b3 a (by omega) (by omega))
  obtain ⟨I', c1, c2, c3⟩ := sts_ok b2 k2 hlen (gI (R 160) m)
  obtain ⟨R', hR'⟩ : ∃ R', R' = upL (upL R1 172 ((R1 172).set p (gI (R1 172) p + 1))) 176 (((upL R1 172 ((R1 172).set p (gI (R1 172) p + 1))) 176).set (p * 85 + (Γ p).length) (gI (R 160) m)) := ⟨_, rfl⟩
  rw [← hR'] at c2
  have hsl : ((Γ p).set i (2, t2')).length = (Γ p).length := List.length_set ..
  have gsS := gs_set hΓ (t' := t2')
  have hap : ∀ (j : Nat) (x : Nat × Nat), ((Γ p).set i (2, t2') ++ [(2, t1')])[j]? = some x → (j = (Γ p).length ∧ x = (2, t1')) ∨ (j < (Γ p).length ∧ ((Γ p).set i (2, t2'))[j]? = some x) := fun j x hx => by
    by_cases c : j < ((Γ p).set i (2, t2')).length
    · rw [List.getElem?_append_left c] at hx
      exact Or.inr ⟨by omega, hx⟩
    · rw [List.getElem?_append_right (by omega)] at hx
      have hl2 := (List.getElem?_eq_some_iff.mp hx).1
      rw [List.length_singleton] at hl2
      have e0 : j - ((Γ p).set i (2, t2')).length = 0 := by omega
      rw [e0] at hx
      exact Or.inl ⟨by omega, (Option.some.inj hx).symm⟩
  have e0 : ((Γ p).set i (2, t2') ++ [(2, t1')])[0]? = ((Γ p).set i (2, t2'))[0]? := List.getElem?_append_left (by omega)
  have hT' := ty_take s9 t1 t2 hΓ hq (fun i0 x hx => (u0 i0 x hx).1) (fun i0 x hx => (u1 i0 x hx).1) hk0 v1 v2 eHt (n1 := (Γ p).length) (by omega) (by omega) (G' := (Γ p).set i (2, t2') ++ [(2, t1')]) (fun j tt hj hg => by
    rcases hap j _ hg with ⟨e1, e2⟩ | ⟨e1, e2⟩
    · exact Or.inl ⟨e1, congrArg Prod.snd e2⟩
    · exact Or.inr ⟨by omega, gsS.1 j tt hj e2⟩) (fun i0 => by rw [e0]; exact gsS.2.1 i0) (fun i0 => by rw [e0]; exact gsS.2.2 i0)
  have r176 : R1 176 = R 176 := a7 176 (by omega) (by omega)
  have r172 : R1 172 = R 172 := a7 172 (by omega) (by omega)
  have fR : ∀ a, a ≠ 152 → a ≠ 156 → a ≠ 172 → a ≠ 176 → R' a = R a := fun a w1 w2 w3 w4 => by rw [hR', upL_n _ _ w4, upL_n _ _ w3, a7 a w1 w2]
  have f1 : ∀ a, a ≠ 172 → a ≠ 176 → R' a = R1 a := fun a w3 w4 => by rw [hR', upL_n _ _ w4, upL_n _ _ w3]
  have e176 : R' 176 = (R 176).set (p * 85 + (Γ p).length) (gI (R 160) m) := by rw [hR', upL_s, upL_n _ _ (by omega), r176]
  have e172 : R' 172 = (R 172).set p (gI (R 172) p + 1) := by rw [hR', upL_n _ _ (by omega), upL_s, r172]
  have fB : ∀ q i, q ≠ 221 → ¬ (q = 218 ∧ i = 128 * p + (Γ p).length) → ¬ (q = 217 ∧ i = p) → a_u2 (a_u2 B1 218 (128 * p + (Γ p).length) (B1 224 m)) 217 p (a_u2 B1 218 (128 * p + (Γ p).length) (B1 224 m) 217 p + 1) q i = B q i := fun q i w1 w2 w3 => by rw [a_u2_n _ _ w3, a_u2_n _ _ w2, a9 q i w1]
  refine ⟨I', a_u2 (a_u2 B1 218 (128 * p + (Γ p).length) (B1 224 m)) 217 p (a_u2 B1 218 (128 * p + (Γ p).length) (B1 224 m) 217 p + 1), J, R', nm, sd, ?_, ?_, rcv_out S0 (rk_keep hK2 (fun a w1 w2 => c3 a (by omega) (by omega))) c2 (by rw [c3 148 (by omega) (by omega), b3 148 (by omega) (by omega)]; exact a8) (fun q i hq => fB q i (by omega) (by omega) (by omega)) (fun a w1 w2 _ w4 w5 => fR a w1 w2 w4 w5) ⟨by rw [fR _ (by omega) (by omega) (by omega) (by omega)], by rw [e172, List.length_set], by rw [e176, List.length_set]⟩ ⟨fun j hj => by rw [fR 166 (by omega) (by omega) (by omega) (by omega), e172]; exact ⟨rfl, gI_sn hj _⟩, fun j hj => by rw [e176]; exact gI_sn (by omega) _⟩ ?_ hT' (fun p' i hp' => a_u2_n _ _ (by omega)) (chl_keep a5 (fun a _ _ => f1 a (by omega) (by omega))) (qal_keep a6 (fun a _ _ => f1 a (by omega) (by omega)) (fun a i _ _ => by rw [a_u2_n _ _ (by omega), a_u2_n _ _ (by omega)]) (fun _ => rfl)) (by rw [fR _ (by omega) (by omega) (by omega) (by omega)]; exact h166) (by rw [fB _ _ (by omega) (by omega) (by omega)]; exact h213) hPR hm (by rw [List.length_append, hsl]; omega) (by rw [List.length_append, hsl, List.length_singleton]; omega) (trx_app (trx_set hΓ hX.1 t7) (fun _ => hX.2)) (slx_new t8 k4 t5 hlen hsl (set_of hΓ) (fun i hi => a_u2_n _ _ (by omega)) (fun i _ hi => by rw [e176]; exact gI_sn (by omega) _) (fun i _ hi => fB _ _ (by omega) (by omega) (by omega)) (fun y => absurd y (show (2 : Nat) ≠ 1 by omega)) (fun _ => ⟨v', y, ?_, ?_, w3, w4, ?_, ?_⟩))⟩
  · unfold dsK
    rw [if_neg (by decide), if_neg (by decide), if_neg (by decide), if_pos rfl, a1, h47]
    unfold tmK
    rw [if_pos rfl, b1, sb, s3, rk_g hK2 (by unfold rkA; omega) hκ, sb, h51, c1, sb, sb]
  · unfold goK
    rw [if_neg (by decide), if_neg (by decide), if_neg (by decide), if_neg (by decide), if_neg (by decide), if_pos rfl, hrd, sb, a2, sb]
    show (if inb (nI m) 700 then if inb ((128 * (nI p)) + nI (Γ p).length) 10240 then some (a_u2 (a_u2 B1 218 ((128 * (nI p)) + nI (Γ p).length).toNatClampNeg (B1 224 (nI m).toNatClampNeg)) 217 p (a_u2 B1 218 ((128 * (nI p)) + nI (Γ p).length).toNatClampNeg (B1 224 (nI m).toNatClampNeg) 217 p + 1), J) else none else none) = _
    rw [if_pos (in700 (by omega)), i128, if_pos (show inb (nI (128 * p + (Γ p).length)) 10240 from vp_in_nI (by omega) (by omega)), nI_clamp (by omega), cl700 (by omega)]
  · rw [e172, gI_se (by omega), a_u2_s, a_u2_n _ _ (by omega), a9 _ _ (by omega), g7 t2]
  · rw [e176, gI_se (by omega)]; exact v1
  · rw [a_u2_n _ _ (by omega), a_u2_s, a9 _ _ (by omega)]; exact w2
  · rw [a_u2_s]; exact hrv
  · rw [a_u2_s]; exact w5
end
