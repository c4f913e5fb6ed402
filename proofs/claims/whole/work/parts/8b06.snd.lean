/-! ONE STEP: put, pick (pure) -/
theorem bsome {α : Type} (o : Option α) : (o.bind fun x => some x) = o := by cases o <;> rfl
theorem gs_set {G : Gm} {i t t' : Nat} (hi : G[i]? = some (2, t)) : GS G (G.set i (2, t')) i t' := by
  have hl := (List.getElem?_eq_some_iff.mp hi).1
  refine ⟨fun j tt hj hg => ?_, fun h0 => ?_, fun h0 => ?_⟩
  · rw [List.getElem?_set] at hg
    by_cases c : i = j
    · rw [if_pos c, if_pos hl] at hg
      exact Or.inl ⟨c.symm, (pair2 hg).symm⟩
    · rw [if_neg c] at hg
      exact Or.inr ⟨fun y => c y.symm, hg⟩
  · subst h0
    rw [List.getElem?_set, if_pos rfl, if_pos hl]
  · rw [List.getElem?_set, if_neg h0]
theorem set_of {G : Gm} {i t t' : Nat} (hi : G[i]? = some (2, t)) : ∀ (j s tt : Nat), s ≠ 0 → (G.set i (2, t'))[j]? = some (s, tt) → ∃ t1, G[j]? = some (s, t1) := by
  intro j s tt hs hg
  have hl := (List.getElem?_eq_some_iff.mp hi).1
  rw [List.getElem?_set] at hg
  by_cases c : i = j
  · rw [if_pos c, if_pos hl] at hg
    have : s = 2 := by
      have := Option.some.inj hg
      exact (congrArg Prod.fst this).symm
    subst this c
    exact ⟨t, hi⟩
  · rw [if_neg c] at hg
    exact ⟨tt, hg⟩
theorem trx_set {k : Nat} {L : lT} {B0 : iT} {J0 : jT} {G : Gm} {i t t' : Nat} (hi : G[i]? = some (2, t)) (hX : TRX k L B0 J0 t') (H : ∀ (i t : Nat), G[i]? = some (2, t) → TRX k L B0 J0 t) : ∀ (j tt : Nat), (G.set i (2, t'))[j]? = some (2, tt) → TRX k L B0 J0 tt := by
  intro j tt hg
  have hl := (List.getElem?_eq_some_iff.mp hi).1
  rw [List.getElem?_set] at hg
  by_cases c : i = j
  · rw [if_pos c, if_pos hl] at hg
    rw [← pair2 hg]
    exact hX
  · rw [if_neg c] at hg
    exact H j tt hg
section
variable {sp : Int32} {k h md : Nat} {D : List Df} {L : lT} {B0 : iT} {J0 : jT} {F : fT} {I B : iT} {J : jT} {np nm dn sd : Nat} {R : lT} {z : Nat → Prop} {p f : Nat} {e : Df} {Γ : Nat → Gm} {ch : Nat → Nat → Nat} {rl dp : Nat → Nat} {ow : Nat → Nat × Nat × Nat} {Gt Ht : Nat → Nat} {q : Nat → List Nat} {mr rk : Nat → Nat} {Q Rn Rc : Nat → Prop}
theorem st_hk (S : STR1 sp k h md D L B0 J0 F I B J np nm dn sd R z p f e Γ ch rl dp ow Gt Ht q mr rk) : (k = 12 ∨ k = 73) ∧ p < 80 ∧ f < 12 ∧ e.2.1.length ≤ 4 ∧ B 198 (12 * h + f) = nI e.2.1.length ∧ B 186 31 = nI h ∧ h < 2 ∧ B 212 p = nI f ∧ B 186 76 = nI 0 := by
  obtain ⟨s1, s2, s3, s4, s5, s6, s7, s8, s9, s10, s11, s12, s13, s14, ⟨t1, t2, t3, t4, t5, t6, t7, t8⟩, s15, s16⟩ := S
  obtain ⟨d1, d2, d3⟩ := bk_def s1 t3
  have h80 := ty_80 s9
  obtain ⟨g1, g2, g3, g4, g5, g6, g7, g8, g9⟩ := s6.2 p t1
  exact ⟨s1.1, by omega, d1, d2, by rw [s2.1 198 (by omega) (by omega)]; exact d3, s2.2.2.1, s1.2.1, by rw [g6]; exact t4, s2.2.2.2.2⟩
/-- a number, in both -/
theorem num_ok (S : STR1 sp k h md D L B0 J0 F I B J np nm dn sd R z p f e Γ ch rl dp ow Gt Ht q mr rk) {d ex root f1 : Nat} (hE : ER k e.2.1.length (nsG (Γ p)) L B0 Q d ex root f1 28) : ∃ v I1 B1, mX6_numberOf I F (nI p) (nI root) = some (v, I1) ∧ mX12_worth SF B (nI p) (nI ex) = some (v, B1) ∧ RK I1 k L ∧ RN I1 R ∧ I1 148 = I 148 ∧ (∀ q i, ¬ (q = 186 ∧ i = 76) → q ≠ 229 → B1 q i = B q i) ∧ B1 186 76 = nI 0 := by
  obtain ⟨k1, k2, k3, k4, k5, k6, k7, k8, k9⟩ := st_hk S
  obtain ⟨s1, s2, s3, s4, s5, s6, s7, s8, s9, s10, s11, s12, s13, s14, ⟨t1, t2, t3, t4, t5, t6, t7, t8⟩, s15, s16⟩ := S
  have hL : (L (k + 19)).length ≤ 1000 := s1.2.2.2.2.2.2.2.2.1.1
  obtain ⟨v, hc, hr⟩ := no_ok (s := fun j => gI (R 176) (p * 85 + j)) k1 k2 k4 hL hE
  obtain ⟨I1, a1, a2, a3, a4⟩ := hc I R F s4 s5 s3 (fun j _ => rfl)
  obtain ⟨B1, b1, b2, b3, b4, b5⟩ := hr B ⟨s2.1, fun j hj => by obtain ⟨t, ht⟩ := hj; exact (t8.1 j t ht).symm⟩ k9
  exact ⟨v, I1, B1, a1, b1, a2, a3, a4 148 (by omega) (by omega), b5, b3⟩
theorem cl_lay (S : STR1 sp k h md D L B0 J0 F I B J np nm dn sd R z p f e Γ ch rl dp ow Gt Ht q mr rk) {i t κ : Nat} {I1 : iT} (hκ : κ < 2 ^ 31) (hΓ : (Γ p)[i]? = some (2, t)) (h49 : gI (L (k + 49)) κ = nI i) (hK1 : RK I1 k L) (hN1 : RN I1 R) (kn vn : Int32) : mX6_lay I1 F (nI p) (nI κ) kn vn = mX1_lay I1 (nI (chX rl ch p i)) (nI (if i = 0 then 0 else 1)) kn vn := by
  obtain ⟨k1, k2, k3, k4, k5, k6, k7, k8, k9⟩ := st_hk S
  obtain ⟨s1, s2, s3, s4, s5, s6, s7, s8, s9, s10, s11, s12, s13, s14, ⟨t1, t2, t3, t4, t5, t6, t7, t8⟩, s15, s16⟩ := S
  obtain ⟨x, y, x1, x2, x3, x4, x5, x6⟩ := t8.2 i t hΓ
  have hi : i < 85 := by have := (List.getElem?_eq_some_iff.mp hΓ).1; omega
  have hto := to_ok s3 hK1 hN1 s10 k2 hκ hi h49 x1 x3 x5
  unfold mX6_lay mX6_lay_19
  rw [s3, rk_g hK1 (by unfold rkA; omega) hκ, sb, h49, hto, sb]
  by_cases c : i = 0
  · rw [if_pos (by rw [i_i0 hi]; exact c), if_pos c]
    exact bsome _
  · rw [if_neg (by rw [i_i0 hi]; exact c), if_neg c, sb]
    exact bsome _
theorem wr_st (S : STR1 sp k h md D L B0 J0 F I B J np nm dn sd R z p f e Γ ch rl dp ow Gt Ht q mr rk) {i t : Nat} (hΓ : (Γ p)[i]? = some (2, t)) : mX12_writes B (nI p) (nI (sg e.2.1.length i)) = some (nI (rwX rl ch p i)) ∧ mX12_reads B (nI p) (nI (sg e.2.1.length i)) = some (nI (rdX rl ch p i)) := by
  obtain ⟨k1, k2, k3, k4, k5, k6, k7, k8, k9⟩ := st_hk S
  obtain ⟨s1, s2, s3, s4, s5, s6, s7, s8, s9, s10, s11, s12, s13, s14, ⟨t1, t2, t3, t4, t5, t6, t7, t8⟩, s15, s16⟩ := S
  obtain ⟨x, y, x1, x2, x3, x4, x5, x6⟩ := t8.2 i t hΓ
  have hi : i < 85 := by have := (List.getElem?_eq_some_iff.mp hΓ).1; omega
  exact rw_ok s10 k2 hi k4 k6 k7 k8 k3 k5 x2 x4 x6
theorem snd_ok (S : STR1 sp k h md D L B0 J0 F I B J np nm dn sd R z p f e Γ ch rl dp ow Gt Ht q mr rk) {i t t' κ u' l' m : Nat} {I1 B1 : iT} (hκ : κ < 2 ^ 31) (hΓ : (Γ p)[i]? = some (2, t)) (h49 : gI (L (k + 49)) κ = nI i) (h166 : gI (R 166) p = nI (κ + 1)) (h213 : B 213 p = nI u') (hPR : PR k e.2.1.length (D.take f) L B0 J0 Q Rn Rc m u' (κ + 1) l' ((Γ p).set i (2, t'))) (hm : m ≤ 250 ∧ QH B0 Q) (hX : TRX k L B0 J0 t') (hK1 : RK I1 k L) (hN1 : RN I1 R) (h148 : I1 148 = I 148) (hB1 : ∀ q i, ¬ (q = 186 ∧ i = 76) → q ≠ 229 → B1 q i = B q i) (h76 : B1 186 76 = nI 0) (kn vn x3 : Int32) (w : Int64)
    (hM : (kn = 0 ∧ vn = x3 ∧ w = 0) ∨ (kn = 1 ∧ w = 0 ∧ ∃ v y, vn = nI v ∧ x3 = nI y ∧ v < np ∧ y < np ∧ rl y = v) ∨ (kn = 2 ∧ x3 = 0 ∧ ∃ w', isN w' ∧ vn = nI (cN w') ∧ w = lN (rN w')) ∨ (kn = 3 ∧ vn = 0 ∧ x3 = 0 ∧ w = 0)) (hkn : kn ≠ 1) (h0 : i = 0 → isD (gI (L (k + 2)) t) ∧ TMd k L (a_u1 (gI (R 158)) nm kn) (a_u1 (gI (R 160)) nm vn) Ht t nm t') (h1 : i ≠ 0 → isU (gI (L (k + 2)) t) ∧ TMu k L (a_u1 (gI (R 158)) nm kn) (a_u1 (gI (R 160)) nm vn) Ht t nm t') :
    ∃ I' R' B' J', mX6_lay I1 F (nI p) (nI κ) kn vn = some I' ∧ mX12_lay B1 J (nI (rwX rl ch p i)) kn x3 w = some (B', J') ∧ RUN sp k h md D L B0 J0 F I' B' J' np (nm + 1) dn sd R' (fun x => z x ∧ x ≠ p) := by
  have hcl := cl_lay S hκ hΓ h49 hK1 hN1 kn vn
  obtain ⟨k1, k2, k3, k4, k5, k6, k7, k8, k9⟩ := st_hk S
  have S0 := S
  obtain ⟨s1, s2, s3, s4, s5, s6, s7, s8, s9, s10, s11, s12, s13, s14, ⟨t1, t2, t3, t4, t5, t6, t7, t8⟩, s15, s16⟩ := S
  obtain ⟨n1, n2, n3, n4, n5, n6, n7, n8, n9, n10, n11, n12⟩ := s7
  have hQ1 : QAL np rl q R B1 J := qal_keep s13 (fun _ _ _ => rfl) (fun a i _ _ => hB1 a i (by omega) (by omega)) (fun _ => rfl)
  obtain ⟨I', R', B', J', a1, a2, a3, a4, a5, a6, a7, a8, a9, a10, a11, a12⟩ := layx s9 hN1 s12 hQ1 (by rw [hB1 _ _ (by omega) (by omega)]; exact n7) (by omega) t1 t2 hΓ kn vn x3 w hM
  have fB : ∀ q i, ¬ (q = 186 ∧ (i = 64 ∨ i = 76)) → q ≠ 229 → ¬ (221 ≤ q ∧ q ≤ 225) → B' q i = B q i := fun q i w1 w2 w3 => by rw [a11 q i (by omega) w3, hB1 q i (by omega) w2]
  obtain ⟨g1, g2, g3, g4, g5, g6, g7, g8, g9⟩ := s6.2 p t1
  have fR := a8
  have f148 : I' 148 = I 148 := by rw [a9 148 (by omega), h148]
  have hT' := ty_put s9 t1 t2 hΓ (G' := (Γ p).set i (2, t')) hkn h0 h1 (fun _ hx => hx) (gs_set hΓ)
  rw [← a6, ← a7, show (fun x => gI (R 168) x = 0) = (fun x => gI (R' 168) x = 0) by rw [fR _ (by omega)]] at hT'
  refine ⟨I', R', B', J', by rw [hcl]; exact a1, a2, out9 S0 (rk_keep hK1 (fun a w1 w2 => a9 a (by omega))) a3 (fun q i hq => fB q i (by omega) (by omega) (by omega)) (by rw [a11 _ _ (by omega) (by omega)]; exact h76) a12 ⟨fun a ha => fR a (by omega), fun a ha => by rw [fR a (by omega)], fun a j ha _ => by rw [fR a (by omega)], fun j _ => by rw [fR _ (by omega)], by rw [fR _ (by omega)]⟩ ⟨by rw [fB _ _ (by omega) (by omega) (by omega)]; exact n1, by rw [fB _ _ (by omega) (by omega) (by omega)]; exact n2, by rw [f148]; exact n3, by rw [fB _ _ (by omega) (by omega) (by omega)]; exact n4, n5, by omega, a10, by rw [f148]; exact n8, by rw [fB _ _ (by omega) (by omega) (by omega)]; exact n9, n10, by rw [f148, fB _ _ (by omega) (by omega) (by omega)]; exact n11, by rw [fB _ _ (by omega) (by omega) (by omega)]; exact n12⟩ ?_ ?_ hT' (fun _ _ _ => rfl) (by rw [fR _ (by omega)]; exact Nat.le_refl _) a4 a5 (fun _ => ⟨u', κ + 1, l', m, Q, Rn, Rc, by rw [fR _ (by omega)]; exact h166, by rw [fB _ _ (by omega) (by omega) (by omega)]; exact h213, hPR, hm, by rw [List.length_set]; exact t5, by rw [List.length_set]; exact t6, trx_set hΓ hX t7, slx_keep t8 k4 (by rw [List.length_set]; exact t6) (set_of hΓ) (fun i _ => by rw [fR _ (by omega)]) (fun i _ => fB _ _ (by omega) (by omega) (by omega))⟩)⟩
  · unfold SAI
    rw [fR _ (by omega), fR _ (by omega)]
    refine ⟨s8.1, s8.2.1, fun i hi => ?_⟩
    rw [fB _ _ (by omega) (by omega) (by omega), fB _ _ (by omega) (by omega) (by omega)]
    exact s8.2.2 i hi
  · rw [fR _ (by omega), fR _ (by omega), fR _ (by omega), fB _ _ (by omega) (by omega) (by omega), fB _ _ (by omega) (by omega) (by omega), fB _ _ (by omega) (by omega) (by omega)]
    exact ⟨g1, g2, g4, g7, g8⟩
end
