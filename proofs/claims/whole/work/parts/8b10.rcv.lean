/-! ONE STEP: a MESSAGE is taken (pure) -/
def tmK (I : iT) (F : fT) (x1 x2 v K : Int32) : Option iT := if K = 306 then (mX4_bump 172 I x1 1).bind fun q5 => (mX4_at ((F 148 12) + 51) q5 x2).bind fun q6 => (mX6_setSlot q5 x1 q6 v).bind fun q7 => some q7 else if K = 308 then (mX0_alternative (F 148 12) I x2 v).bind fun q8 => (mX4_put 166 I x1 q8).bind fun q9 => some q9 else if K = 316 then (mX4_bump 172 I x1 ((-1))).bind fun q10 => some q10 else (mX4_at ((F 148 12) + 51) I x2).bind fun q11 => (mX6_setSlot I x1 q11 v).bind fun q12 => some q12
theorem sts_ok {I : iT} {R : lT} (hN : RN I R) {p i : Nat} (hp : p < 80) (hi : i < 85) (v : Int32) : ∃ I', mX6_setSlot I (nI p) (nI i) v = some I' ∧ RN I' (upL R 176 ((R 176).set (p * 85 + i) v)) ∧ fr1 176 I I' := by
  obtain ⟨I', a1, a2, a3⟩ := rn_put hN (a := 176) (by unfold rnA; omega) (j := p * 85 + i) (by omega) v
  refine ⟨I', ?_, a2, a3⟩
  unfold mX6_setSlot
  rw [i85, a1, sb]
section
variable {k : Nat} {L : lT} {a b c : Int32} {en : Prop} {kd va : Nat → Int32} {Ht : Nat → Nat} {t m x t' : Nat}
theorem tm_one (H : TM k L a b c en kd va Ht t m x) (hK : gI (L (k + 2)) t = a) (h1 : a ≠ b) (h2 : a ≠ c) (h3 : a ≠ 302) (h6 : gI (L (k + 6)) t = nI t') (ht : t' < 1000) : x = t' ∧ kd m = 0 := by
  rcases H with ⟨e1, e2, e3, e4⟩ | ⟨e1, e2, _⟩ | ⟨e1, e2, _⟩ | ⟨_, e1, e2, _⟩
  · rw [h6] at e3
    exact ⟨((nI_eq (by omega) (by omega)).mp e3).symm, e1⟩
  · exact absurd (hK.symm.trans e2) h1
  · exact absurd (hK.symm.trans e2) h2
  · exact absurd (hK.symm.trans e2) h3
theorem tm_two (H : TM k L a b c en kd va Ht t m x) (hK : gI (L (k + 2)) t = b) (h1 : b ≠ a) (h2 : b ≠ c) (h3 : b ≠ 302) (h6 : gI (L (k + 6)) t = nI t') (ht : t' < 1000) : x = t' ∧ kd m = 1 ∧ ∃ v, va m = nI v ∧ v < 80 ∧ gI (L (k + 4)) t = nI (Ht v) ∧ Ht v < 1000 := by
  rcases H with ⟨e1, e2, _⟩ | ⟨e1, e2, e3, e4, e5⟩ | ⟨e1, e2, _⟩ | ⟨_, e1, e2, _⟩
  · exact absurd (hK.symm.trans e2) h1
  · rw [h6] at e3
    exact ⟨((nI_eq (by omega) (by omega)).mp e3).symm, e1, e5⟩
  · exact absurd (hK.symm.trans e2) h2
  · exact absurd (hK.symm.trans e2) h3
theorem tm_cho (H : TM k L a b c en kd va Ht t m x) (hK : gI (L (k + 2)) t = c) (h1 : c ≠ a) (h2 : c ≠ b) (h3 : c ≠ 302) : kd m = 2 ∧ x < 1000 ∧ ∃ f n j w, gI (L (k + 4)) t = nI f ∧ f < 1000 ∧ gI (L (k + 6)) t = nI n ∧ n ≤ 6 ∧ j < n ∧ isN w ∧ gI (L (k + 10)) (f + j) = nI (cN w) ∧ va m = nI (cN w) ∧ gI (L (k + 12)) (f + j) = nI x := by
  rcases H with ⟨e1, e2, _⟩ | ⟨e1, e2, _⟩ | ⟨e1, e2, e3, e4⟩ | ⟨_, e1, e2, _⟩
  · exact absurd (hK.symm.trans e2) h1
  · exact absurd (hK.symm.trans e2) h2
  · exact ⟨e1, e3, e4⟩
  · exact absurd (hK.symm.trans e2) h3
theorem tm_end (H : TM k L a b c en kd va Ht t m x) (hK : gI (L (k + 2)) t = 302) (h1 : a ≠ 302) (h2 : b ≠ 302) (h3 : c ≠ 302) : x = 5000 := by
  rcases H with ⟨e1, e2, _⟩ | ⟨e1, e2, _⟩ | ⟨e1, e2, _⟩ | ⟨_, e1, e2, e3⟩
  · exact absurd (e2.symm.trans hK) h1
  · exact absurd (e2.symm.trans hK) h2
  · exact absurd (e2.symm.trans hK) h3
  · exact e3
end
theorem gs_app {G G' : Gm} {i t' s x : Nat} (H : GS G G' i t') (hs : s ≠ 2) (hl : 0 < G'.length) : GS G (G' ++ [(s, x)]) i t' := by
  obtain ⟨a, b, c⟩ := H
  have e0 : (G' ++ [(s, x)])[0]? = G'[0]? := List.getElem?_append_left hl
  refine ⟨fun j tt hj hg => ?_, fun h => by rw [e0]; exact b h, fun h => by rw [e0]; exact c h⟩
  by_cases y : j < G'.length
  · rw [List.getElem?_append_left y] at hg
    exact a j tt hj hg
  · rw [List.getElem?_append_right (by omega)] at hg
    have hl2 := (List.getElem?_eq_some_iff.mp hg).1
    have : j - G'.length = 0 := by rw [List.length_singleton] at hl2; omega
    rw [this] at hg
    have := congrArg Prod.fst (Option.some.inj hg)
    exact absurd this hs
theorem trx_app {k : Nat} {L : lT} {B0 : iT} {J0 : jT} {G : Gm} {x : Nat × Nat} (H : ∀ (i t : Nat), G[i]? = some (2, t) → TRX k L B0 J0 t) (hx : x.1 = 2 → TRX k L B0 J0 x.2) : ∀ (i t : Nat), (G ++ [x])[i]? = some (2, t) → TRX k L B0 J0 t := by
  intro i t hg
  by_cases y : i < G.length
  · rw [List.getElem?_append_left y] at hg
    exact H i t hg
  · rw [List.getElem?_append_right (by omega)] at hg
    have hl2 := (List.getElem?_eq_some_iff.mp hg).1
    have : i - G.length = 0 := by rw [List.length_singleton] at hl2; omega
    rw [this] at hg
    have e : x = (2, t) := Option.some.inj hg
    subst e
    exact hx rfl
section
variable {sp : Int32} {k h md : Nat} {D : List Df} {L : lT} {B0 : iT} {J0 : jT} {F : fT} {I B : iT} {J : jT} {np nm dn sd : Nat} {R : lT} {z : Nat → Prop} {p f : Nat} {e : Df} {Γ : Nat → Gm} {ch : Nat → Nat → Nat} {rl dp : Nat → Nat} {ow : Nat → Nat × Nat × Nat} {Gt Ht : Nat → Nat} {q : Nat → List Nat} {mr rk : Nat → Nat} {Q Rn Rc : Nat → Prop}
theorem tmk (S : STR1 sp k h md D L B0 J0 F I B J np nm dn sd R z p f e Γ ch rl dp ow Gt Ht q mr rk) {i t κ m : Nat} {l : List Nat} (hκ : κ < 2 ^ 31) (hΓ : (Γ p)[i]? = some (2, t)) (h49 : gI (L (k + 49)) κ = nI i) (hq : q (rdX rl ch p i) = m :: l) :
    ∃ I1 R1 B1, mX6_takeMessage I F (nI p) (nI κ) = tmK I1 F (nI p) (nI κ) (gI (R 160) m) (gI (L (k + 47)) κ) ∧ mX12_take B (nI (rdX rl ch p i)) = some (nI m, B1) ∧ RK I1 k L ∧ RN I1 R1 ∧ CHL np nm R1 ∧ QAL np rl (a_u1 q (rdX rl ch p i) l) R1 B1 J ∧ (∀ a, a ≠ 152 → a ≠ 156 → R1 a = R a) ∧ I1 148 = I 148 ∧ (∀ q i, q ≠ 221 → B1 q i = B q i) ∧ MCL np rl R B J m ∧ m < nm ∧ nm < 600 := by
  obtain ⟨k1, k2, k3, k4, k5, k6, k7, k8, k9⟩ := st_hk S
  obtain ⟨s1, s2, s3, s4, s5, s6, s7, s8, s9, s10, s11, s12, s13, s14, ⟨t1, t2, t3, t4, t5, t6, t7, t8⟩, s15, s16⟩ := S
  obtain ⟨x, y, x1, x2, x3, x4, x5, x6⟩ := t8.2 i t hΓ
  have hi : i < 85 := by have := (List.getElem?_eq_some_iff.mp hΓ).1; omega
  obtain ⟨I1, R1, B1, a1, a2, a3, a4, a5, a6, a7, a8, a9, a10⟩ := takx s9 s5 s12 s13 t1 t2 hΓ hq
  have hK1 := rk_keep s4 (I' := I1) (fun a w1 w2 => a7 a (by omega))
  refine ⟨I1, R1, B1, ?_, a2, hK1, a3, a4, a5, a6, a7 148 (by omega), a8, a9, a10, by have := s7.2.2.2.2.1; omega⟩
  unfold mX6_takeMessage tmK
  rw [to_ok s3 s4 s5 s10 k2 hκ hi h49 x1 x3 x5, sb, std_ok s3 s4 hκ hi h49, sb, a1, sb, s3, rk_g hK1 (by unfold rkA; omega) hκ, sb]
/-- what every taking leaves -/
theorem rcv_out (S : STR1 sp k h md D L B0 J0 F I B J np nm dn sd R z p f e Γ ch rl dp ow Gt Ht q mr rk) {G' : Gm} {ch' : Nat → Nat → Nat} {ow' : Nat → Nat × Nat × Nat} {Gt' Ht' : Nat → Nat} {q' : Nat → List Nat} {mr' rk' : Nat → Nat} {I' B' : iT} {R' : lT} {u κ l m : Nat} (hK' : RK I' k L) (hN' : RN I' R') (f148 : I' 148 = I 148) (fB : ∀ q i, ((187 ≤ q ∧ q ≤ 205) ∨ (q = 186 ∧ i ≠ 78) ∨ q = 212 ∨ q = 214 ∨ q = 215 ∨ q = 216 ∨ q = 219 ∨ q = 220 ∨ q = 227 ∨ q = 228 ∨ (q = 213 ∧ i ≠ p) ∨ (q = 217 ∧ i ≠ p) ∨ (q = 218 ∧ (i < 128 * p ∨ 128 * p + 128 ≤ i))) → B' q i = B q i)
    (fR : ∀ a, a ≠ 152 → a ≠ 156 → a ≠ 166 → a ≠ 172 → a ≠ 176 → R' a = R a) (fL : (R' 166).length = (R 166).length ∧ (R' 172).length = (R 172).length ∧ (R' 176).length = (R 176).length) (fP : (∀ j, j ≠ p → gI (R' 166) j = gI (R 166) j ∧ gI (R' 172) j = gI (R 172) j) ∧ ∀ j, (j < p * 85 ∨ p * 85 + 85 ≤ j ∨ j = p * 85) → gI (R' 176) j = gI (R 176) j) (h217 : B' 217 p = gI (R' 172) p)
    (hT : TYI k L np nm (fun p => gI (R 168) p = 0) (a_u1 Γ p G') ch' rl ow' Gt' Ht' q' mr' rk' (gI (R 158)) (gI (R 160))) (hch : ∀ p' i, p' ≠ p → ch' p' i = ch p' i) (hCL : CHL np nm R') (hQ : QAL np rl q' R' B' J) (h166 : gI (R' 166) p = nI κ) (h213 : B' 213 p = nI u) (hPR : PR k e.2.1.length (D.take f) L B0 J0 Q Rn Rc m u κ l G') (hm : m ≤ 250 ∧ QH B0 Q) (hl1 : e.2.1.length + 1 ≤ G'.length) (hl2 : G'.length ≤ 85) (hX : ∀ (i t : Nat), G'[i]? = some (2, t) → TRX k L B0 J0 t) (hS : SLX np rl ch' R' B' p e.2.1.length G') :
    RUN sp k h md D L B0 J0 F I' B' J np nm dn sd R' (fun x => z x ∧ x ≠ p) := by
  obtain ⟨k1, k2, k3, k4, k5, k6, k7, k8, k9⟩ := st_hk S
  have S0 := S
  obtain ⟨s1, s2, s3, s4, s5, s6, s7, s8, s9, s10, s11, s12, s13, s14, ⟨t1, t2, t3, t4, t5, t6, t7, t8⟩, s15, s16⟩ := S
  obtain ⟨n1, n2, n3, n4, n5, n6, n7, n8, n9, n10, n11, n12⟩ := s7
  obtain ⟨⟨z1, z2, z3, z4, z5, z6, z7⟩, z8⟩ := s6
  obtain ⟨g1, g2, g3, g4, g5, g6, g7, g8, g9⟩ := z8 p t1
  rw [← fR 158 (by omega) (by omega) (by omega) (by omega) (by omega), ← fR 160 (by omega) (by omega) (by omega) (by omega) (by omega), show (fun x => gI (R 168) x = 0) = (fun x => gI (R' 168) x = 0) by rw [fR 168 (by omega) (by omega) (by omega) (by omega) (by omega)]] at hT
  refine out9 S0 hK' hN' (fun q i hq => fB q i (by omega)) (by rw [fB _ _ (by omega)]; exact k9) (fun _ _ _ => rfl) ⟨fun a ha => fR a (by omega) (by omega) (by omega) (by omega) (by omega), fun a ha => ?_, fun a j ha hj => ?_, fun j hj => fP.2 j (by omega), fP.2 _ (by omega)⟩ ⟨by rw [fB _ _ (by omega)]; exact n1, by rw [fB _ _ (by omega)]; exact n2, by rw [f148]; exact n3, by rw [fB _ _ (by omega)]; exact n4, n5, n6, by rw [fB _ _ (by omega)]; exact n7, by rw [f148]; exact n8, by rw [fB _ _ (by omega)]; exact n9, n10, by rw [f148, fB _ _ (by omega)]; exact n11, by rw [fB _ _ (by omega)]; exact n12⟩ ?_ ?_ hT hch (by rw [fR 168 (by omega) (by omega) (by omega) (by omega) (by omega)]; exact Nat.le_refl _) hCL hQ (fun _ => ⟨u, κ, l, m, Q, Rn, Rc, h166, h213, hPR, hm, hl1, hl2, hX, hS⟩)
  · rcases ha with e4 | e4 | e4 | e4 | e4
    · subst e4; exact fL.1
    · rw [fR a (by omega) (by omega) (by omega) (by omega) (by omega)]
    · subst e4; exact fL.2.1
    · rw [fR a (by omega) (by omega) (by omega) (by omega) (by omega)]
    · subst e4; exact fL.2.2
  · rcases ha with e4 | e4 | e4 | e4
    · subst e4; exact (fP.1 j hj).1
    · rw [fR a (by omega) (by omega) (by omega) (by omega) (by omega)]
    · subst e4; exact (fP.1 j hj).2
    · rw [fR a (by omega) (by omega) (by omega) (by omega) (by omega)]
  · unfold SAI
    rw [fR 182 (by omega) (by omega) (by omega) (by omega) (by omega), fR 184 (by omega) (by omega) (by omega) (by omega) (by omega)]
    refine ⟨s8.1, s8.2.1, fun i hi => ?_⟩
    rw [fB _ _ (by omega), fB _ _ (by omega)]
    exact s8.2.2 i hi
  · rw [fR 168 (by omega) (by omega) (by omega) (by omega) (by omega), fR 174 (by omega) (by omega) (by omega) (by omega) (by omega), fB 219 _ (by omega), fB 216 _ (by omega)]
    exact ⟨g1, g2, g4, fun _ => h217, fun w => by rw [t2] at w; exact absurd w (by decide)⟩
end
