/-! ONE STEP: new (pure) -/
section
variable {sp : Int32} {k h md : Nat} {D : List Df} {L : lT} {B0 : iT} {J0 : jT} {F : fT} {I B : iT} {J : jT} {np nm dn sd : Nat} {R : lT} {z : Nat → Prop} {p f : Nat} {e : Df} {Γ : Nat → Gm} {ch : Nat → Nat → Nat} {rl dp : Nat → Nat} {ow : Nat → Nat × Nat × Nat} {Gt Ht : Nat → Nat} {q : Nat → List Nat} {mr rk : Nat → Nat} {Q Rn Rc : Nat → Prop}
theorem slx_up {np' n : Nat} {rl' : Nat → Nat} {ch' : Nat → Nat → Nat} {G : Gm} (H : SLX np rl ch R B p n G) (hnp : np ≤ np') (h1 : ∀ x, x < np → rl' x = rl x) (h2 : ∀ (i t : Nat), G[i]? = some (2, t) → chX rl' ch' p i = chX rl ch p i) : SLX np' rl' ch' R B p n G := by
  refine ⟨H.1, fun i t hi => ?_⟩
  obtain ⟨x, y, x1, x2, x3, x4, x5, x6⟩ := H.2 i t hi
  exact ⟨x, y, x1, x2, by omega, by omega, by rw [h1 x x3, h2 i t hi]; exact x5, by rw [h1 y x4, h2 i t hi]; exact x6⟩
/-- the class's half of new -/
theorem mkp_ok (S : STR1 sp k h md D L B0 J0 F I B J np nm dn sd R z p f e Γ ch rl dp ow Gt Ht q mr rk) (h80 : np < 80) {κ fd n1 κ1 : Nat} {df : Df} {vc : List Int32} {I1 : iT} {R1 : lT} (hκ : κ < 2 ^ 31) (h51 : gI (L (k + 51)) κ = nI fd) (h49 : gI (L (k + 49)) κ = nI n1) (hn1 : 1 ≤ n1 ∧ n1 < 85) (hfd : fd < 12) (hP : PMr k fd L df.2.1) (h37 : gI (L (k + 37)) fd = nI κ1) (hv : vc.length = df.2.1.length) (hK1 : RK I1 k L) (hN1 : RN I1 R1) (h178 : R1 178 = vc) (hR1 : ∀ a, a ≠ 178 → R1 a = R a) (h148 : I1 148 = I 148) :
    ∃ I' R', mX6_makeProcess I1 F (nI p) (nI κ) = some I' ∧ RK I' k L ∧ RN I' R' ∧ I' 148 = I 148 ∧ R' 150 = R 150 ++ [-1] ∧ R' 152 = R 152 ++ [-1] ++ [-1] ∧ R' 154 = R 154 ++ [-1] ++ [-1] ∧ R' 156 = R 156 ++ [0] ++ [0] ∧ R' 164 = R 164 ++ [nI fd] ∧ R' 166 = R 166 ++ [nI κ1] ∧ R' 168 = R 168 ++ [0] ∧ R' 170 = R 170 ++ [0] ∧ R' 172 = (R 172).set p (gI (R 172) p + (1 - nI (cch df.2.1))) ++ [nI (cch df.2.1)] ∧ R' 174 = R 174 ++ [0] ∧ (R' 176).length = (R 176).length ∧ gI (R' 176) (np * 85) = nI np ∧ (∀ j, j < vc.length → gI (R' 176) (np * 85 + (1 + j)) = gI vc j) ∧ gI (R' 176) (p * 85 + n1) = nI np ∧ (∀ i, i < np * 85 → i ≠ p * 85 + n1 → gI (R' 176) i = gI (R 176) i) ∧ (∀ a, ¬ (150 ≤ a ∧ a ≤ 157) → ¬ (164 ≤ a ∧ a ≤ 178) → R' a = R a) := by
  obtain ⟨k1, k2, k3, k4, k5, k6, k7, k8, k9⟩ := st_hk S
  obtain ⟨s1, s2, s3, s4, s5, s6, s7, s8, s9, s10, s11, s12, s13, s14, ⟨t1, t2, t3, t4, t5, t6, t7, t8⟩, s15, s16⟩ := S
  obtain ⟨⟨z1, z2, z3, z4, z5, z6, z7⟩, z8⟩ := s6
  obtain ⟨l1, l2, l3, l4, l5, l6, l7, l8⟩ := s12
  have hv4 : vc.length ≤ 4 := by have := hP.1; omega
  obtain ⟨I2, R2, a1, a2, a150, a152, a154, a156, a164, a166, a168, a170, a172, a174, a176, aR, aI⟩ := add_ok hN1 h80 ⟨by rw [hR1 150 (by omega)]; exact s10.1, by rw [hR1 152 (by omega)]; exact l3, by rw [hR1 154 (by omega)]; exact l4, by rw [hR1 156 (by omega)]; exact l5⟩ ⟨by rw [hR1 164 (by omega)]; exact z1, by rw [hR1 166 (by omega)]; exact z2, by rw [hR1 168 (by omega)]; exact z3, by rw [hR1 170 (by omega)]; exact z4, by rw [hR1 172 (by omega)]; exact z5, by rw [hR1 174 (by omega)]; exact z6⟩
  have hK2 := rk_keep hK1 (I' := I2) (fun a w1 w2 => aI a (by omega))
  have l176 : (R2 176).length = 6800 := by rw [a176, List.length_set, hR1 176 (by omega)]; exact z7
  obtain ⟨I3, R3, b1, b2, b3, b164, b166, b172, bl, bs, bo, bR, bI⟩ := gn_ok (p := np) s3 hK2 a2 h80 hfd h37 hP (by rw [aR 178 (by omega) (by omega) (by omega) (by omega) (by omega) (by omega) (by omega) (by omega) (by omega) (by omega) (by omega)]; exact h178) hv4 (by rw [l176]; omega)
  obtain ⟨I4, c1, c2, c3⟩ := rn_bump b3 (a := 172) (by unfold rnA; omega) (j := p) (by omega) (1 - nI (cch df.2.1))
  have hK4 := rk_keep b2 (I' := I4) (fun a w1 w2 => c3 a (by omega) (by omega))
  obtain ⟨I5, d1, d2, d3⟩ := sts_ok c2 k2 hn1.2 (nI np)
  obtain ⟨R4, hR4⟩ : ∃ X, X = upL R3 172 ((R3 172).set p (gI (R3 172) p + (1 - nI (cch df.2.1)))) := ⟨_, rfl⟩
  rw [← hR4] at d2 c2
  have f4 : ∀ a, a ≠ 172 → R4 a = R3 a := fun a w => by rw [hR4, upL_n _ _ w]
  have f5 : ∀ a, a ≠ 172 → a ≠ 176 → upL R4 176 ((R4 176).set (p * 85 + n1) (nI np)) a = R3 a := fun a w1 w2 => by rw [upL_n _ _ w2, f4 a w1]
  have e3np : gI (R3 176) (np * 85) = nI np := by
    rw [bo _ (fun j hj => by omega), a176]
    exact gI_se (by rw [hR1 176 (by omega), z7]; omega) _
  have e5 : upL R4 176 ((R4 176).set (p * 85 + n1) (nI np)) 176 = (R3 176).set (p * 85 + n1) (nI np) := by rw [upL_s, f4 176 (by omega)]
  have l3' : (R3 176).length = 6800 := by rw [bl, l176]
  refine ⟨I5, _, ?_, rk_keep hK4 (fun a w1 w2 => d3 a (by omega) (by omega)), d2, ?_, ?_, ?_, ?_, ?_, ?_, ?_, ?_, ?_, ?_, ?_, ?_, ?_, fun j hj => ?_, ?_, fun i hi hi2 => ?_, fun a w1 w2 => ?_⟩
  · unfold mX6_makeProcess
    rw [s3, rk_g hK1 (by unfold rkA; omega) hκ, sb, h51, a1, sb, b1, sb, cp_ok b2 hfd hP, sb, c1, sb, rk_g hK4 (by unfold rkA; omega) hκ, sb, h49]
    have e1 : mX6_slotOf I4 (nI np) 0 = some (nI np) := by
      have := slo_ok c2 (p := np) (i := 0) h80 (by omega)
      rw [f4 176 (by omega), Nat.add_zero, e3np] at this
      exact this
    rw [e1, sb, d1, sb]
  · rw [d3 148 (by omega) (by omega), c3 148 (by omega) (by omega), bI 148 (by omega), aI 148 (by omega), h148]
  · rw [f5 150 (by omega) (by omega), bR _ (by omega) (by omega) (by omega) (by omega), a150, hR1 150 (by omega)]
  · rw [f5 152 (by omega) (by omega), bR _ (by omega) (by omega) (by omega) (by omega), a152, hR1 152 (by omega)]
  · rw [f5 154 (by omega) (by omega), bR _ (by omega) (by omega) (by omega) (by omega), a154, hR1 154 (by omega)]
  · rw [f5 156 (by omega) (by omega), bR _ (by omega) (by omega) (by omega) (by omega), a156, hR1 156 (by omega)]
  · rw [f5 164 (by omega) (by omega), b164, a164, hR1 164 (by omega), List.set_append_right _ _ (by omega), z1, Nat.sub_self]; rfl
  · rw [f5 166 (by omega) (by omega), b166, a166, hR1 166 (by omega), List.set_append_right _ _ (by omega), z2, Nat.sub_self]; rfl
  · rw [f5 168 (by omega) (by omega), bR _ (by omega) (by omega) (by omega) (by omega), a168, hR1 168 (by omega)]
  · rw [f5 170 (by omega) (by omega), bR _ (by omega) (by omega) (by omega) (by omega), a170, hR1 170 (by omega)]
  · have e3 : R3 172 = R 172 ++ [nI (cch df.2.1)] := by rw [b172, a172, hR1 172 (by omega), List.set_append_right _ _ (by omega), z5, Nat.sub_self]; rfl
    rw [upL_n _ _ (by omega), hR4, upL_s, e3, gI_l _ (by omega), List.set_append_left _ _ (by omega)]
  · rw [f5 174 (by omega) (by omega), bR _ (by omega) (by omega) (by omega) (by omega), a174, hR1 174 (by omega)]
  · rw [e5, List.length_set, l3', z7]
  · rw [e5, gI_sn (by omega)]; exact e3np
  · rw [e5, gI_sn (by omega)]; exact bs j hj
  · rw [e5]; exact gI_se (by omega) _
  · rw [e5, gI_sn hi2, bo i (fun j hj => by omega), a176, gI_sn (by omega), hR1 176 (by omega)]
  · rw [f5 a (by omega) (by omega), bR a (by omega) (by omega) (by omega) (by omega), aR a (by omega) (by omega) (by omega) (by omega) (by omega) (by omega) (by omega) (by omega) (by omega) (by omega) (by omega), hR1 a (by omega)]
theorem k_new (S : STR1 sp k h md D L B0 J0 F I B J np nm dn sd R z p f e Γ ch rl dp ow Gt Ht q mr rk) (h80 : np < 80) {κ fd a u u' l' m : Nat} {df : Df} {Γ1 : Gm} (hκ : κ < 2 ^ 31) (hu : u < 2800) (hfd : (D.take f)[fd]? = some df) (h51 : gI (L (k + 51)) κ = nI fd) (h53 : gI (L (k + 53)) κ = nI a) (h49 : gI (L (k + 49)) κ = nI (Γ p).length) (hJu : J0 192 u = lN fd) (h189 : B0 189 u = nI (Γ p).length) (hA : argR k e.2.1.length L B0 Q df.2.1 (Γ p) (B0 190 u) a Γ1) (hlen : (Γ p).length < 85) (h166 : gI (R 166) p = nI (κ + 1)) (h213 : B 213 p = nI u') (hPR : PR k e.2.1.length (D.take f) L B0 J0 Q Rn Rc m u' (κ + 1) l' (Γ1 ++ [(2, df.2.2)])) (hm : m ≤ 250 ∧ QH B0 Q) (b a' b' : Int32) (c : Int64) :
    ∃ I' B' R', dsK I F (nI p) (nI κ) b 309 = some I' ∧ goK B J p u a' b' c 48 = (mX12_settles B' J (nI np)).bind (fun q19 => some (q19, J)) ∧ RUN sp k h md D L B0 J0 F I' B' J (np + 1) nm dn sd R' (fun x => z x ∧ x ≠ p ∧ x ≠ np) ∧ gI (R' 168) p = 0 ∧ gI (R' 168) np = 0 := by
  have hga := fun vc => ga_ok S (df := df) (vc := vc) hκ h51 h53
  have hmk := fun vc κ1 I1 R1 => mkp_ok S h80 (df := df) (vc := vc) (κ1 := κ1) (I1 := I1) (R1 := R1) hκ h51 h49
  obtain ⟨k1, k2, k3, k4, k5, k6, k7, k8, k9⟩ := st_hk S
  obtain ⟨s1, s2, s3, s4, s5, s6, s7, s8, s9, s10, s11, s12, s13, s14, ⟨t1, t2, t3, t4, t5, t6, t7, t8⟩, s15, s16⟩ := S
  obtain ⟨n1, n2, n3, n4, n5, n6, n7, n8, n9, n10, n11, n12⟩ := s7
  obtain ⟨⟨z1, z2, z3, z4, z5, z6, z7⟩, z8⟩ := s6
  obtain ⟨g1, g2, g3, g4, g5, g6, g7, g8, g9⟩ := z8 p t1
  have hDfd : D[fd]? = some df := by
    have hl := (List.getElem?_eq_some_iff.mp hfd).1
    rw [List.getElem?_take] at hfd
    split at hfd
    · exact hfd
    · cases hfd
  obtain ⟨o1, o2, o3, u1, κ1, l1, m1, Q1, Rn1, Rc1, o4, o5, o6, o7⟩ := bk_go s1 hDfd
  have hL : (L (k + 19)).length ≤ 1000 := s1.2.2.2.2.2.2.2.2.1.1
  have hL9 : (L (k + 59)).length ≤ 500 := s1.2.2.2.2.2.2.2.2.1.2.2.2.2.1
  obtain ⟨src, vc, vr, r1, r2, r3, r4, r5, r6, r7⟩ := ar_ok (sc := fun i => gI (R 176) (p * 85 + i)) (sr := fun i => B 218 (128 * p + sg e.2.1.length i)) k1 k2 k4 hL hL9 _ _ _ _ _ hA t6 (fun j hj => by obtain ⟨t, ht⟩ := hj; exact t8.1 j t ht)
  have hle := o2.1
  have hn1 : e.2.1.length + 1 ≤ (Γ p).length := t5
  obtain ⟨I1, R1, a1, a2, a3, a4, a5, a6⟩ := hga vc o1 o2 r6
  obtain ⟨I', R', b1, bK, bN, b148, b150, b152, b154, b156, b164, b166, b168, b170, b172, b174, bl, bnp, bvc, bp1, bo, bR⟩ := hmk vc κ1 I1 R1 ⟨by omega, hlen⟩ o1 o2 o5 r2 a2 a3 a4 a5 a6
  obtain ⟨B', c1, c60, c61, c76, c219, c215, c216, c217, c217p, c214, c212, c213, c220, c221, c218, c218n, c218p, fB⟩ := mak_ok (J := J) t1 h80 hu k7 o1 hlen n1 n2 s2.1 (by rw [s2.2.1 192 (by omega) (by omega)]; exact hJu) rfl h189 k6 r7 k4 (fun i _ => rfl) k9 hle
  -- frames of B'
  have fo : ∀ q i, ¬ (q = 186 ∧ (i = 60 ∨ i = 61 ∨ i = 76)) → q ≠ 229 → q ≠ 230 → ¬ (212 ≤ q ∧ q ≤ 222) → B' q i = B q i := fun q i w1 w2 w3 w4 => fB q i w1 w2 w3 (by omega) (by omega) (by omega) (by omega) (by omega)
  have fx : ∀ q x, x < np → (q = 212 ∨ q = 213 ∨ q = 214 ∨ q = 215 ∨ q = 216 ∨ q = 219 ∨ q = 220 ∨ (q = 217 ∧ x ≠ p)) → B' q x = B q x := fun q x hx hq => fB q x (by omega) (by omega) (by omega) (by omega) (by omega) (by omega) (by omega) (by omega)
  have f218 : ∀ i, i < 128 * np → i ≠ 128 * p + (Γ p).length → B' 218 i = B 218 i := fun i w1 w2 => fB 218 i (by omega) (by omega) (by omega) (by omega) (by omega) (by omega) (by omega) (by omega)
  have fq : ∀ r, r < 2 * np → B' 221 r = B 221 r ∧ B' 222 r = B 222 r := fun r hr => ⟨fB _ _ (by omega) (by omega) (by omega) (by omega) (by omega) (by omega) (by omega) (by omega), fB _ _ (by omega) (by omega) (by omega) (by omega) (by omega) (by omega) (by omega) (by omega)⟩
  -- the class's columns
  have al' : ∀ x, x < np → gI (R' 168) x = gI (R 168) x := fun x hx => by rw [b168, gI_l _ (by omega)]
  have alnp : gI (R' 168) np = 0 := by rw [b168]; exact gI_la z3 _
  obtain ⟨ow', rk', hT'⟩ := ty_new s9 (T := df.2.2) (n1 := (Γ p).length) t1 t2 h80 r1 r1.2.2.2.1 (by omega) (al' := fun x => gI (R' 168) x = 0) (fun x hx h => by rw [← al' x hx]; exact h)
  rw [← bR 158 (by omega) (by omega), ← bR 160 (by omega) (by omega)] at hT'
  obtain ⟨l1', l2', l3, l4, l5, l6, l7, l8⟩ := s12
  have hcO : cO (R' 168) = cO (R 168) := by rw [b168]; exact cO_app _
  have rl_n : ∀ x, x < np → a_u1 rl np np x = rl x := fun x hx => a_u1_n _ _ (by omega)
  have hSB : SB h B0 J0 B' J := ⟨fun q w1 w2 => by rw [← s2.1 q w1 w2]; exact funext fun i => fo q i (by omega) (by omega) (by omega) (by omega), s2.2.1, by rw [fo _ _ (by omega) (by omega) (by omega) (by omega)]; exact s2.2.2.1, by rw [fo _ _ (by omega) (by omega) (by omega) (by omega)]; exact s2.2.2.2.1, c76⟩
  have hG1l : Γ1.length = (Γ p).length := r1.2.2.2.1
  refine ⟨I', B', R', ?_, ?_, ⟨s1, hSB, s3, bK, bN, ⟨⟨by rw [b164, List.length_append, z1]; rfl, by rw [b166, List.length_append, z2]; rfl, by rw [b168, List.length_append, z3]; rfl, by rw [b170, List.length_append, z4]; rfl, by rw [b172, List.length_append, List.length_set, z5]; rfl, by rw [b174, List.length_append, z6]; rfl, by rw [bl]; exact z7⟩, fun x hx => ?_⟩, ⟨c60, c61, by rw [b148]; exact n3, by rw [fo _ _ (by omega) (by omega) (by omega) (by omega)]; exact n4, n5, n6, by rw [fo _ _ (by omega) (by omega) (by omega) (by omega)]; exact n7, by rw [b148]; exact n8, by rw [fo _ _ (by omega) (by omega) (by omega) (by omega)]; exact n9, n10, by rw [b148, fo _ _ (by omega) (by omega) (by omega) (by omega)]; exact n11, by rw [fo _ _ (by omega) (by omega) (by omega) (by omega)]; exact n12⟩, ?_, _, _, _, a_u1 dp np 0, ow', _, _, _, mr, rk', hT', ⟨by rw [b150, List.length_append, s10.1]; rfl, by omega, fun x hx => ?_⟩, fun x hx => ?_, ⟨by omega, l2', by rw [b152, List.length_append, List.length_append, l3, List.length_singleton]; omega, by rw [b154, List.length_append, List.length_append, l4, List.length_singleton]; omega, by rw [b156, List.length_append, List.length_append, l5, List.length_singleton]; omega, by rw [bR _ (by omega) (by omega)]; exact l6, by rw [bR _ (by omega) (by omega)]; exact l7, by rw [bR _ (by omega) (by omega)]; exact l8⟩, fun cc hcc hrc s hs => ?_, fun x hx hal => ?_⟩, by rw [al' p t1]; exact t2, alnp⟩
  · unfold dsK
    rw [if_neg (by decide), if_neg (by decide), if_neg (by decide), if_neg (by decide), if_neg (by decide), if_neg (by decide), if_pos rfl, a1, sb, b1, sb]
  · unfold goK
    rw [if_neg (by decide), if_neg (by decide), if_neg (by decide), if_neg (by decide), if_neg (by decide), if_neg (by decide), if_neg (by decide), if_neg (by decide), if_pos rfl, c1]
  · -- columns
    by_cases e0 : x = np
    · subst e0
      rw [alnp, c219, c215, c216, c214, c212, c217, b170, gI_la z4, b174, gI_la z6, b164, gI_la z1, b172, gI_la (by rw [List.length_set]; exact z5), bnp]
      exact ⟨Or.inl rfl, rfl, rfl, rfl, rfl, rfl, fun _ => rfl, fun w => absurd w (by decide), rfl⟩
    · have hx' : x < np := by omega
      obtain ⟨y1, y2, y3, y4, y5, y6, y7, y8, y9⟩ := z8 x hx'
      rw [al' x hx', fx 219 x hx' (by omega), fx 215 x hx' (by omega), fx 216 x hx' (by omega), fx 214 x hx' (by omega), fx 212 x hx' (by omega), b170, gI_l _ (by omega), b174, gI_l _ (by omega), b164, gI_l _ (by omega), b172, gI_l _ (by rw [List.length_set]; omega), bo (x * 85) (by omega) (by omega)]
      by_cases e1 : x = p
      · subst e1
        rw [c217p, gI_se (by omega), g7 t2]
        exact ⟨y1, y2, y3, y4, y5, y6, fun _ => rfl, fun w => by rw [t2] at w; exact absurd w (by decide), y9⟩
      · rw [fx 217 x hx' (by omega), gI_sn e1]
        exact ⟨y1, y2, y3, y4, y5, y6, y7, y8, y9⟩
  · unfold SAI
    rw [bR _ (by omega) (by omega), bR _ (by omega) (by omega)]
    refine ⟨s8.1, s8.2.1, fun i hi => ?_⟩
    rw [fo _ _ (by omega) (by omega) (by omega) (by omega), fo _ _ (by omega) (by omega) (by omega) (by omega)]
    exact s8.2.2 i hi
  · -- CHANNELS
    rw [b150]
    by_cases e0 : x = np
    · subst e0
      rw [a_u1_s, a_u1_s, gI_la s10.1, c220]
      exact ⟨hx, by omega, Or.inl ⟨rfl, rfl, rfl⟩⟩
    · have hx' : x < np := by omega
      obtain ⟨y1, y2, y3⟩ := s10.2.2 x hx'
      rw [a_u1_n _ _ e0, a_u1_n _ _ e0, gI_l _ (by rw [s10.1]; omega), fx 220 x hx' (by omega)]
      refine ⟨by omega, y2, ?_⟩
      rcases y3 with y | ⟨y, v1, v2, v3, v4, v5, v6⟩
      · exact Or.inl y
      · exact Or.inr ⟨y, by omega, v2, v3, v4, by rw [rl_n y v1]; exact v5, by rw [a_u1_n _ _ (by omega)]; exact v6⟩
  · rw [hcO]
    by_cases e0 : x = np
    · subst e0; rw [a_u1_s]; exact Nat.zero_le _
    · rw [a_u1_n _ _ e0]; exact s11 x (by omega)
  · -- MESSAGES
    have hmcl : ∀ m, MCL np rl R B J m → MCL (np + 1) (a_u1 rl np np) R' B' J m := by
      intro m hM
      unfold MCL
      rw [bR 158 (by omega) (by omega), bR 160 (by omega) (by omega), fo 223 m (by omega) (by omega) (by omega) (by omega), fo 224 m (by omega) (by omega) (by omega) (by omega)]
      refine ⟨hM.1, ?_⟩
      rcases hM.2 with y | ⟨y1, y2, v, y, y3, y4, y5, y6, y7⟩ | y | y
      · exact Or.inl y
      · exact Or.inr (Or.inl ⟨y1, y2, v, y, y3, y4, by omega, by omega, by rw [rl_n y y6]; exact y7⟩)
      · exact Or.inr (Or.inr (Or.inl y))
      · exact Or.inr (Or.inr (Or.inr y))
    have hq2 : B' 225 = B 225 := funext fun i => fo 225 i (by omega) (by omega) (by omega) (by omega)
    by_cases e0 : cc = np
    · subst e0
      have hnil : (a_u1 (a_u1 q (2 * cc) []) (2 * cc + 1) []) (2 * cc + s) = [] := by
        have : s = 0 ∨ s = 1 := by omega
        rcases this with rfl | rfl
        · rw [a_u1_n _ _ (by omega), Nat.add_zero, a_u1_s]
        · rw [a_u1_s]
      rw [hnil]
      refine ⟨⟨?_, trivial, fun a z h => by cases a <;> cases h⟩, ⟨(c221 s hs).1, fun a z h => by cases a <;> cases h⟩, fun m hm => by cases hm⟩
      have : s = 0 ∨ s = 1 := by omega
      rcases this with rfl | rfl
      · rw [b156, Nat.add_zero, gI_l _ (by rw [List.length_append, l5, List.length_singleton]; omega), gI_la l5]; rfl
      · rw [b156, gI_la (by rw [List.length_append, l5]; rfl)]; rfl
    · have hcc' : cc < np := by omega
      have hrc' : rl cc = cc := by rw [← rl_n cc hcc']; exact hrc
      rw [a_u1_n _ _ (by omega), a_u1_n _ _ (by omega)]
      obtain ⟨y1, y2, y3⟩ := s13 cc hcc' hrc' s hs
      refine ⟨?_, ?_, fun m hm => hmcl m (y3 m hm)⟩
      · unfold QCc
        rw [b156, b152, b154, bR 162 (by omega) (by omega), gI_l _ (by rw [List.length_append, l5, List.length_singleton]; omega), gI_l _ (by omega), gI_l _ (by rw [List.length_append, l3, List.length_singleton]; omega), gI_l _ (by omega), gI_l _ (by rw [List.length_append, l4, List.length_singleton]; omega), gI_l _ (by omega)]
        exact y1
      · unfold QCr
        rw [hq2, (fq _ (show 2 * cc + s < 2 * np by omega)).1, (fq _ (show 2 * cc + s < 2 * np by omega)).2]
        exact y2
  · -- PROCESSES
    by_cases e1 : x = p
    · subst e1
      rw [a_u1_s]
      refine ⟨f, e, u', κ + 1, l', m, Q, Rn, Rc, t3, by rw [b164, gI_l _ (by omega)]; exact t4, by rw [b166, gI_l _ (by omega)]; exact h166, by rw [fx 213 x t1 (by omega)]; exact h213, hPR, hm, by rw [List.length_append, hG1l]; omega, by rw [List.length_append, hG1l, List.length_singleton]; omega, ?_, ?_⟩
      · exact trx_app (fun i t hi => t7 i t (r1.2.2.1 i 2 t (by omega) hi).1) (fun _ => o3 0 df.2.2 rfl)
      · have hch : ∀ i, i ≠ (Γ x).length → (fun y i => if y = np then ch x (src (i - 1)) else if y = x ∧ i = (Γ x).length then np else ch y i) x i = ch x i := fun i hi => by
          show (if x = np then ch x (src (i - 1)) else if x = x ∧ i = (Γ x).length then np else ch x i) = ch x i
          rw [if_neg (by omega), if_neg (fun w => hi w.2)]
        have hup := slx_up (np' := np + 1) (rl' := a_u1 rl np np) (ch' := ch) t8 (by omega) rl_n (fun i t hi => by unfold chX; rw [rl_n x t1])
        have hsl := slx_new (R' := R') (B' := B') (G' := Γ1) (x := (2, df.2.2)) (ch' := fun y i => if y = np then ch x (src (i - 1)) else if y = x ∧ i = (Γ x).length then np else ch y i) hup k4 t5 hlen hG1l (fun i s t hs hi => ⟨t, (r1.2.2.1 i s t hs hi).1⟩) hch (fun i hi hi2 => bo _ (by omega) (by omega)) (fun i hi hi2 => f218 _ (by omega) (by omega)) (fun y => absurd y (show (2 : Nat) ≠ 1 by omega)) (fun _ => by
          refine ⟨np, np, bp1, c218p, by omega, by omega, ?_, ?_⟩ <;>
          · show a_u1 rl np np np = (if x = np then ch x (src ((Γ x).length - 1)) else if x = x ∧ (Γ x).length = (Γ x).length then np else ch x (Γ x).length)
            rw [if_neg (by omega), if_pos ⟨rfl, rfl⟩, a_u1_s])
        exact ⟨hsl.1, hsl.2, fun hz => absurd rfl hz.2.1⟩
    · rw [a_u1_n _ _ e1]
      by_cases e0 : x = np
      · subst e0
        rw [a_u1_s]
        have hsg0 : sg df.2.1.length 0 = df.2.1.length := rfl
        refine ⟨fd, df, u1, κ1, l1, m1, Q1, Rn1, Rc1, hDfd, by rw [b164]; exact gI_la z1 _, by rw [b166]; exact gI_la z2 _, by rw [c213]; exact o4, o7, o6, by rw [List.length_cons]; exact Nat.le_refl _, by rw [List.length_cons]; omega, o3, fun i t hi => ?_, fun i t hi => ?_, fun hz => absurd rfl hz.2.2⟩
        · cases i with
          | zero => exact absurd (congrArg Prod.fst (Option.some.inj hi)) (show (2 : Nat) ≠ 1 by omega)
          | succ j =>
            have hj : df.2.1[j]? = some (1, t) := hi
            have hjl := (List.getElem?_eq_some_iff.mp hj).1
            have hsg := sg_spec df.2.1.length (j + 1)
            have e1 : sg df.2.1.length (j + 1) = j := by omega
            rw [e1, show x * 85 + (j + 1) = x * 85 + (1 + j) by omega, bvc j (by omega), c218 j hjl]
            exact r4 j t hj
        · cases i with
          | zero =>
            refine ⟨x, x, by rw [Nat.add_zero]; exact bnp, by rw [hsg0]; exact c218n, hx, hx, ?_, ?_⟩ <;>
            · unfold chX
              rw [if_pos rfl]
          | succ j =>
            have hj : df.2.1[j]? = some (2, t) := hi
            have hjl := (List.getElem?_eq_some_iff.mp hj).1
            have hsg := sg_spec df.2.1.length (j + 1)
            have e2 : sg df.2.1.length (j + 1) = j := by omega
            obtain ⟨q1, q2⟩ := r5 j t hj
            obtain ⟨q3, q4⟩ := r1.1 j t hj
            obtain ⟨x', y', x1, x2, x3, x4, x5, x6⟩ := t8.2 _ _ q4
            have ec : chX (a_u1 rl x x) (fun y i => if y = x then ch p (src (i - 1)) else if y = p ∧ i = (Γ p).length then x else ch y i) x (j + 1) = chX rl ch p (src j) := by
              unfold chX
              rw [if_neg (by omega), if_neg (by omega)]
              show (if x = x then ch p (src (j + 1 - 1)) else if x = p ∧ j + 1 = (Γ p).length then x else ch x (j + 1)) = ch p (src j)
              rw [if_pos rfl, Nat.add_sub_cancel]
            refine ⟨x', y', ?_, ?_, by omega, by omega, by rw [ec, rl_n x' x3]; exact x5, by rw [ec, rl_n y' x4]; exact x6⟩
            · rw [show x * 85 + (j + 1) = x * 85 + (1 + j) by omega, bvc j (by omega), q1]
              exact x1
            · rw [e2, c218 j hjl, q2]
              exact x2
      · have hx' : x < np := by omega
        rw [a_u1_n _ _ e0]
        exact prc_keep (σ := id) (s14 x hx' e1 (by rw [← al' x hx']; exact hal)) (fun f e hf => (bk_def s1 hf).2.1) (by rw [b164, gI_l _ (by omega)]) (by rw [b166, gI_l _ (by omega)]) (fx 213 x hx' (by omega)) (fun i hi => bo _ (by omega) (by omega)) (fun i hi => f218 _ (by omega) (by omega)) (by omega) (fun y hy => rl_n y hy) (fun i t _ => by
          unfold chX
          show (if i = 0 then a_u1 rl np np x else if x = np then ch p (src (i - 1)) else if x = p ∧ i = (Γ p).length then np else ch x i) = (if i = 0 then rl x else ch x i)
          rw [rl_n x hx', if_neg e0, if_neg (show ¬ (x = p ∧ i = (Γ p).length) from fun w => e1 w.1)]) (fun hz => hz.1)
end
