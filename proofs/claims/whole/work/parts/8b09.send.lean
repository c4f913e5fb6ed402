/-! ONE STEP: send (pure) -/
theorem set2_of {G : Gm} {i j t2 : Nat} : ∀ (j' s tt : Nat), s ≠ 0 → ((G.set j (0, 0)).set i (2, t2))[j']? = some (s, tt) → (j' = i ∧ s = 2 ∧ tt = t2) ∨ (j' ≠ i ∧ j' ≠ j ∧ G[j']? = some (s, tt)) := by
  intro j' s tt hs hg
  rw [List.getElem?_set] at hg
  by_cases c : i = j'
  · rw [if_pos c] at hg
    split at hg
    · have := Option.some.inj hg
      exact Or.inl ⟨c.symm, (congrArg Prod.fst this).symm, (congrArg Prod.snd this).symm⟩
    · cases hg
  · rw [if_neg c, List.getElem?_set] at hg
    by_cases c2 : j = j'
    · rw [if_pos c2] at hg
      split at hg
      · have := Option.some.inj hg
        exact absurd (congrArg Prod.fst this).symm hs
      · cases hg
    · rw [if_neg c2] at hg
      exact Or.inr ⟨fun y => c y.symm, fun y => c2 y.symm, hg⟩
section
variable {sp : Int32} {k h md : Nat} {D : List Df} {L : lT} {B0 : iT} {J0 : jT} {F : fT} {I B : iT} {J : jT} {np nm dn sd : Nat} {R : lT} {z : Nat → Prop} {p f : Nat} {e : Df} {Γ : Nat → Gm} {ch : Nat → Nat → Nat} {rl dp : Nat → Nat} {ow : Nat → Nat × Nat × Nat} {Gt Ht : Nat → Nat} {q : Nat → List Nat} {mr rk : Nat → Nat} {Q Rn Rc : Nat → Prop}
theorem k_send (S : STR1 sp k h md D L B0 J0 F I B J np nm dn sd R z p f e Γ ch rl dp ow Gt Ht q mr rk) {i j t t1 t2 κ u' l' m : Nat} (hκ : κ < 2 ^ 31) (hΓ : (Γ p)[i]? = some (2, t)) (h49 : gI (L (k + 49)) κ = nI i) (h166 : gI (R 166) p = nI (κ + 1)) (h213 : B 213 p = nI u') (hPR : PR k e.2.1.length (D.take f) L B0 J0 Q Rn Rc m u' (κ + 1) l' (((Γ p).set j (0, 0)).set i (2, t2))) (hm : m ≤ 250 ∧ QH B0 Q) (hK : gI (L (k + 2)) t = (if i = 0 then 62 else 60)) (h4 : gI (L (k + 4)) t = nI t1) (h6 : gI (L (k + 6)) t = nI t2) (ht2 : t2 < 1000) (hj : 1 ≤ j) (hji : j ≠ i) (hΓj : (Γ p)[j]? = some (2, t1)) (u : Nat) (c : Int64) :
    OUT sp k h md D L B0 J0 F np dn z p (dsK I F (nI p) (nI κ) (nI j) 305) (goK B J p u (nI (sg e.2.1.length i)) (nI (sg e.2.1.length j)) c 44) := by
  have hcl := cl_lay S hκ hΓ h49 S.2.2.2.1 S.2.2.2.2.1 1 (nI (ch p j))
  have hwr := (wr_st S hΓ).1
  obtain ⟨k1, k2, k3, k4, k5, k6, k7, k8, k9⟩ := st_hk S
  have S0 := S
  obtain ⟨s1, s2, s3, s4, s5, s6, s7, s8, s9, s10, s11, s12, s13, s14, ⟨t1', t2', t3, t4, t5, t6, t7, t8⟩, s15, s16⟩ := S
  obtain ⟨n1, n2, n3, n4, n5, n6, n7, n8, n9, n10, n11, n12⟩ := s7
  obtain ⟨x, y, x1, x2, x3, x4, x5, x6⟩ := t8.2 j t1 hΓj
  have ej : chX rl ch p j = ch p j := by unfold chX; rw [if_neg (by omega)]
  rw [ej] at x5 x6
  have hj85 : j < 85 := by have := (List.getElem?_eq_some_iff.mp hΓj).1; omega
  have hcp : ch p j < np := by rw [← x5]; exact rl_lt s10 x3
  have hK1 : (L (k + 2)).length ≤ 1000 := s1.2.2.2.2.2.2.2.2.1.2.2.1
  have ht1 : t1 < 1000 := trx_lt (t7 j t1 hΓj) hK1
  have hX : TRX k L B0 J0 t2 := by
    by_cases c : i = 0
    · rw [if_pos c] at hK
      exact (trx_two (kd := 62) (t7 i t hΓ) hK1 hK (Or.inl rfl) h4 h6 ht1 ht2).2
    · rw [if_neg c] at hK
      exact (trx_two (kd := 60) (t7 i t hΓ) hK1 hK (Or.inr rfl) h4 h6 ht1 ht2).2
  obtain ⟨I1, R1, B1, J', a1, a2, a3, a4, a5, a6, a7, a8, a9, a10, a11, a12⟩ := layx s9 s5 s12 s13 n7 (by omega) t1' t2' hΓ 1 (nI (ch p j)) (nI y) 0 (Or.inr (Or.inl ⟨rfl, rfl, ch p j, y, rfl, rfl, hcp, x4, x6⟩))
  obtain ⟨I', b1, b2, b3⟩ := rn_bump a3 (a := 172) (by unfold rnA; omega) (j := p) (by omega) (-1)
  obtain ⟨R', hR'⟩ : ∃ R', R' = upL R1 172 ((R1 172).set p (gI (R1 172) p + -1)) := ⟨_, rfl⟩
  rw [← hR'] at b2
  have b4 : R' 172 = (R 172).set p (gI (R 172) p + -1) := by rw [hR', upL_s, a8 172 (by omega)]
  have b5 : ∀ a, a ≠ 172 → R' a = R1 a := fun a w => by rw [hR', upL_n _ _ w]
  obtain ⟨⟨z1, z2, z3, z4, z5, z6, z7⟩, z8⟩ := s6
  obtain ⟨g1, g2, g3, g4, g5, g6, g7, g8, g9⟩ := z8 p t1'
  have fR : ∀ a, ¬ (152 ≤ a ∧ a ≤ 162) → a ≠ 172 → R' a = R a := fun a w1 w3 => by rw [b5 a w3, a8 a w1]
  have fB : ∀ q i, ¬ (q = 186 ∧ i = 64) → ¬ (221 ≤ q ∧ q ≤ 225) → ¬ (q = 217 ∧ i = p) → a_u2 B1 217 p (B1 217 p - 1) q i = B q i := fun q i w1 w2 w3 => by rw [a_u2_n _ _ w3, a11 q i w1 w2]
  have f148 : I' 148 = I 148 := by rw [b3 148 (by omega) (by omega), a9 148 (by omega)]
  have hS2 := set2_of (G := Γ p) (i := i) (j := j) (t2 := t2)
  have hil := (List.getElem?_eq_some_iff.mp hΓ).1
  obtain ⟨rk', hT'⟩ := ty_send s9 t1' t2' hΓ hj hji hΓj ht1 ht2 h4 h6 hK (G' := ((Γ p).set j (0, 0)).set i (2, t2)) (fun j' tt w1 w2 => by
    rcases hS2 j' 2 tt (by omega) w2 with ⟨e1, _, e3⟩ | ⟨e1, e2, e3⟩
    · exact ⟨by omega, Or.inl ⟨e1, e3⟩⟩
    · exact ⟨e2, Or.inr ⟨e1, e3⟩⟩) (fun i0 => by
    subst i0
    rw [List.getElem?_set, if_pos rfl, if_pos (by rw [List.length_set]; exact hil)]) (fun i0 => by
    rw [List.getElem?_set, if_neg i0, List.getElem?_set, if_neg (by omega)])
  rw [← a6, ← a7, ← b5 158 (by omega), ← b5 160 (by omega), show (fun x => gI (R 168) x = 0) = (fun x => gI (R' 168) x = 0) by rw [fR _ (by omega) (by omega)]] at hT'
  have hlen : (((Γ p).set j (0, 0)).set i (2, t2)).length = (Γ p).length := by rw [List.length_set, List.length_set]
  refine ⟨I', a_u2 B1 217 p (B1 217 p - 1), J', R', nm + 1, sd, ?_, ?_, out9 S0 (rk_keep s4 (fun a w1 w2 => by rw [b3 a (by omega) (by omega), a9 a (by omega)])) b2 (fun q i hq => fB q i (by omega) (by omega) (by omega)) (by rw [fB _ _ (by omega) (by omega) (by omega)]; exact k9) a12 ⟨fun a ha => fR a (by omega) (by omega), fun a ha => ?_, fun a j ha hj => ?_, fun j _ => by rw [fR _ (by omega) (by omega)], by rw [fR _ (by omega) (by omega)]⟩ ⟨by rw [fB _ _ (by omega) (by omega) (by omega)]; exact n1, by rw [fB _ _ (by omega) (by omega) (by omega)]; exact n2, by rw [f148]; exact n3, by rw [fB _ _ (by omega) (by omega) (by omega)]; exact n4, n5, by omega, by rw [a_u2_n _ _ (by omega)]; exact a10, by rw [f148]; exact n8, by rw [fB _ _ (by omega) (by omega) (by omega)]; exact n9, n10, by rw [f148, fB _ _ (by omega) (by omega) (by omega)]; exact n11, by rw [fB _ _ (by omega) (by omega) (by omega)]; exact n12⟩ ?_ ?_ hT' (fun _ _ _ => rfl) (by rw [fR _ (by omega) (by omega)]; exact Nat.le_refl _) (chl_keep a4 (fun a _ _ => b5 a (by omega))) (qal_keep a5 (fun a _ _ => b5 a (by omega)) (fun a i _ _ => a_u2_n _ _ (by omega)) (fun _ => rfl)) (fun _ => ⟨u', κ + 1, l', m, Q, Rn, Rc, by rw [fR _ (by omega) (by omega)]; exact h166, by rw [fB _ _ (by omega) (by omega) (by omega)]; exact h213, hPR, hm, by rw [hlen]; exact t5, by rw [hlen]; exact t6, fun i' tt hi' => ?_, slx_keep t8 k4 (by rw [hlen]; exact t6) (fun i' s tt hs hi' => ?_) (fun i _ => by rw [fR _ (by omega) (by omega)]) (fun i _ => fB _ _ (by omega) (by omega) (by omega))⟩)⟩
  · unfold dsK
    rw [if_neg (by decide), if_neg (by decide), if_pos rfl, slo_ok s5 k2 hj85, sb, x1, fo_ok s5 s10 x3, sb, x5, hcl, a1, sb, b1, sb]
  · unfold goK
    have hsg := sg_spec e.2.1.length j
    rw [if_neg (by decide), if_neg (by decide), if_neg (by decide), if_neg (by decide), if_pos rfl, hwr, sb, val_ok k2 (by omega), sb, x2, a2, sb]
  · by_cases e4 : a = 172
    · subst e4; rw [b4, List.length_set]
    · rw [fR a (by omega) e4]
  · by_cases e4 : a = 172
    · subst e4; rw [b4]; exact gI_sn hj _
    · rw [fR a (by omega) e4]
  · unfold SAI
    rw [fR _ (by omega) (by omega), fR _ (by omega) (by omega)]
    refine ⟨s8.1, s8.2.1, fun i hi => ?_⟩
    rw [fB _ _ (by omega) (by omega) (by omega), fB _ _ (by omega) (by omega) (by omega)]
    exact s8.2.2 i hi
  · rw [fR 168 (by omega) (by omega), fR 174 (by omega) (by omega), fB 216 _ (by omega) (by omega) (by omega), fB 219 _ (by omega) (by omega) (by omega), a_u2_s, b4, gI_se (by omega), a11 217 _ (by omega) (by omega)]
    exact ⟨g1, g2, g4, fun w => by rw [g7 w, Int32.sub_eq_add_neg], fun w => by rw [t2'] at w; exact absurd w (by decide)⟩
  · rcases hS2 i' 2 tt (by omega) hi' with ⟨_, _, e3⟩ | ⟨_, _, e3⟩
    · rw [e3]; exact hX
    · exact t7 i' tt e3
  · rcases hS2 i' s tt hs hi' with ⟨e1, e2, _⟩ | ⟨_, _, e3⟩
    · rw [e1, e2]; exact ⟨t, hΓ⟩
    · exact ⟨tt, e3⟩
end
