/-! ONE STEP: put, pick, say (pure) -/
/-- a step of p went well -/
def OUT (sp : Int32) (k h md : Nat) (D : List Df) (L : lT) (B0 : iT) (J0 : jT) (F : fT) (np dn : Nat) (z : Nat → Prop) (p : Nat) (o1 : Option iT) (o2 : Option (iT × jT)) : Prop := ∃ I' B' J' R' nm' sd', o1 = some I' ∧ o2 = some (B', J') ∧ RUN sp k h md D L B0 J0 F I' B' J' np nm' dn sd' R' (fun x => z x ∧ x ≠ p)
section
variable {np sd p : Nat} {R : lT} {I B : iT}
theorem sy_ok (h63 : B 186 63 = nI sd) (hs : sd ≤ 600) (hp : p < 80) (v : Int32) : ∃ B', mX12_says B (nI p) v = some B' ∧ B' 186 63 = nI (sd + 1) ∧ B' 216 p = B 216 p + 1 ∧ (sd < 200 → B' 227 sd = v ∧ B' 228 sd = nI p) ∧ (∀ q i, ¬ (q = 186 ∧ i = 63) → ¬ (q = 216 ∧ i = p) → ¬ ((q = 227 ∨ q = 228) ∧ i = sd ∧ sd < 200) → B' q i = B q i) := by
  unfold mX12_says mX12_says_30
  by_cases c : 200 ≤ sd
  · rw [h63, if_pos (show (200 : Int32) ≤ nI sd from nI_le (a := 200) c (by omega)), if_pos (in80 hp), if_pos (in80 hp), nI_1, cl80 hp]
    refine ⟨_, rfl, ?_, ?_, fun y => absurd y (by omega), fun q i w1 w2 w3 => ?_⟩
    · rw [a_u2_n _ _ (by omega), a_u2_s]
    · rw [a_u2_s, a_u2_n _ _ (by omega)]
    · rw [a_u2_n _ _ w2, a_u2_n _ _ w1]
  · have e1 : a_u2 B 227 sd v 186 63 = nI sd := by rw [a_u2_n _ _ (by omega)]; exact h63
    have i200 : inb (nI sd) 200 := vp_in_nI (by omega) (by omega)
    have c200 : (nI sd).toNatClampNeg = sd := nI_clamp (by omega)
    have e2 : a_u2 (a_u2 B 227 sd v) 228 sd (nI p) 186 63 = nI sd := by rw [a_u2_n _ _ (by omega)]; exact e1
    rw [h63, if_neg (show ¬ (200 : Int32) ≤ nI sd from nI_ge (b := 200) (by omega) (by omega)), if_pos i200, c200, e1, if_pos i200, if_pos (in80 hp), if_pos (in80 hp), c200, e2, nI_1, cl80 hp]
    refine ⟨_, rfl, ?_, ?_, fun _ => ⟨?_, ?_⟩, fun q i w1 w2 w3 => ?_⟩
    · rw [a_u2_n _ _ (by omega), a_u2_s]
    · rw [a_u2_s, a_u2_n _ _ (by omega), a_u2_n _ _ (by omega), a_u2_n _ _ (by omega)]
    · rw [a_u2_n _ _ (by omega), a_u2_n _ _ (by omega), a_u2_n _ _ (by omega), a_u2_s]
    · rw [a_u2_n _ _ (by omega), a_u2_n _ _ (by omega), a_u2_s]
    · rw [a_u2_n _ _ w2, a_u2_n _ _ w1, a_u2_n _ _ (by omega), a_u2_n _ _ (by omega)]
theorem kp_ok (hN : RN I R) (hSA : (R 182).length = min sd 200 ∧ (R 184).length = min sd 200) (h13 : I 148 13 = nI sd) (hp : p < 80) (v : Int32) : ∃ I' R', mX6_keepSaid I (nI p) v = some I' ∧ RN I' R' ∧ I' 148 13 = nI (sd + 1) ∧ R' 174 = (R 174).set p (gI (R 174) p + 1) ∧ R' 182 = (if sd < 200 then R 182 ++ [v] else R 182) ∧ R' 184 = (if sd < 200 then R 184 ++ [nI p] else R 184) ∧ (∀ a, a ≠ 174 → a ≠ 182 → a ≠ 184 → R' a = R a) ∧ (∀ q i, ¬ (q = 148 ∧ i = 13) → ¬ (174 ≤ q ∧ q ≤ 185) → I' q i = I q i) := by
  have hN0 : RN (a_u2 I 148 13 (I 148 13 + 1)) R := rn_keep hN (fun a w1 w2 => funext fun i => a_u2_n _ _ (by omega))
  obtain ⟨I1, a1, a2, a3⟩ := rn_bump hN0 (a := 174) (by unfold rnA; omega) (j := p) (by omega) 1
  have f13 : I1 148 13 = nI (sd + 1) := by rw [a3 148 (by omega) (by omega), a_u2_s, h13, nI_1]
  have fI : ∀ q i, ¬ (q = 148 ∧ i = 13) → ¬ (174 ≤ q ∧ q ≤ 185) → I1 q i = I q i := fun q i w1 w2 => by rw [a3 q (by omega) (by omega), a_u2_n _ _ w1]
  have l182 : (upL R 174 ((R 174).set p (gI (R 174) p + 1)) 182).length = min sd 200 := by rw [upL_n _ _ (by omega)]; exact hSA.1
  have l184 : (upL R 174 ((R 174).set p (gI (R 174) p + 1)) 184).length = min sd 200 := by rw [upL_n _ _ (by omega)]; exact hSA.2
  unfold mX6_keepSaid
  rw [a1, sb, rn_size a2 (by unfold rnA; omega), sb, l182]
  by_cases c : 200 ≤ sd
  · rw [show min sd 200 = 200 by omega, if_pos (show (200 : Int32) ≤ nI 200 by decide)]
    refine ⟨I1, _, rfl, a2, f13, upL_s _ _ _, ?_, ?_, fun a w1 w2 w3 => upL_n _ _ w1, fI⟩
    · rw [if_neg (by omega), upL_n _ _ (by omega)]
    · rw [if_neg (by omega), upL_n _ _ (by omega)]
  · rw [show min sd 200 = sd by omega, if_neg (show ¬ (200 : Int32) ≤ nI sd from nI_ge (b := 200) (by omega) (by omega))]
    obtain ⟨I2, b1, b2, b3⟩ := rn_add a2 (a := 182) (by unfold rnA; omega) (by rw [l182]; show min sd 200 < 200; omega) v
    obtain ⟨I3, c1, c2, c3⟩ := rn_add b2 (a := 184) (by unfold rnA; omega) (by rw [upL_n _ _ (by omega), l184]; show min sd 200 < 200; omega) (nI p)
    rw [b1, sb, c1, sb]
    refine ⟨I3, _, rfl, c2, ?_, ?_, ?_, ?_, fun a w1 w2 w3 => ?_, fun q i w1 w2 => ?_⟩
    · rw [c3 148 (by omega) (by omega), b3 148 (by omega) (by omega)]; exact f13
    · rw [upL_n _ _ (by omega), upL_n _ _ (by omega), upL_s]
    · rw [if_pos (by omega), upL_n _ _ (by omega), upL_s, upL_n _ _ (by omega)]
    · rw [if_pos (by omega), upL_s, upL_n _ _ (by omega), upL_n _ _ (by omega)]
    · rw [upL_n _ _ w3, upL_n _ _ w2, upL_n _ _ w1]
    · rw [c3 q (by omega) (by omega), b3 q (by omega) (by omega), fI q i w1 w2]
end
section
variable {sp : Int32} {k h md : Nat} {D : List Df} {L : lT} {B0 : iT} {J0 : jT} {F : fT} {I B : iT} {J : jT} {np nm dn sd : Nat} {R : lT} {z : Nat → Prop} {p f : Nat} {e : Df} {Γ : Nat → Gm} {ch : Nat → Nat → Nat} {rl dp : Nat → Nat} {ow : Nat → Nat × Nat × Nat} {Gt Ht : Nat → Nat} {q : Nat → List Nat} {mr rk : Nat → Nat} {Q Rn Rc : Nat → Prop}
theorem k_put (S : STR1 sp k h md D L B0 J0 F I B J np nm dn sd R z p f e Γ ch rl dp ow Gt Ht q mr rk) {i t t' κ u' l' m ex root f1 d : Nat} (hκ : κ < 2 ^ 31) (hΓ : (Γ p)[i]? = some (2, t)) (h49 : gI (L (k + 49)) κ = nI i) (h166 : gI (R 166) p = nI (κ + 1)) (h213 : B 213 p = nI u') (hPR : PR k e.2.1.length (D.take f) L B0 J0 Q Rn Rc m u' (κ + 1) l' ((Γ p).set i (2, t'))) (hm : m ≤ 250 ∧ QH B0 Q) (hK : gI (L (k + 2)) t = (if i = 0 then 33 else 63)) (h6 : gI (L (k + 6)) t = nI t') (ht' : t' < 1000) (hE : ER k e.2.1.length (nsG (Γ p)) L B0 Q d ex root f1 28) (u : Nat) (c : Int64) :
    OUT sp k h md D L B0 J0 F np dn z p (dsK I F (nI p) (nI κ) (nI root) 303) (goK B J p u (nI (sg e.2.1.length i)) (nI ex) c 42) := by
  obtain ⟨v, I1, B1, a1, b1, a2, a3, a4, b2, b3⟩ := num_ok S hE
  have hX : TRX k L B0 J0 t' := by
    have hT := S.2.2.2.2.2.2.2.2.2.2.2.2.2.2.1.2.2.2.2.2.2.1 i t hΓ
    have hK1 : (L (k + 2)).length ≤ 1000 := S.1.2.2.2.2.2.2.2.2.1.2.2.1
    by_cases c : i = 0
    · rw [if_pos c] at hK
      exact trx_one (kd := 33) hT hK1 hK (Or.inl rfl) h6 ht'
    · rw [if_neg c] at hK
      exact trx_one (kd := 63) hT hK1 hK (Or.inr rfl) h6 ht'
  obtain ⟨I', R', B', J', c1, c2, c3⟩ := snd_ok S hκ hΓ h49 h166 h213 hPR hm hX a2 a3 a4 b2 b3 0 v v 0 (Or.inl ⟨rfl, rfl, rfl⟩) (by decide) (fun i0 => by
    rw [if_pos i0] at hK
    exact ⟨by rw [hK]; exact Or.inl rfl, Or.inl ⟨a_u1_s _ _ _, hK, h6, ht'⟩⟩) (fun i0 => by
    rw [if_neg i0] at hK
    exact ⟨by rw [hK]; exact Or.inl rfl, Or.inl ⟨a_u1_s _ _ _, hK, h6, ht'⟩⟩)
  refine ⟨I', B', J', R', _, _, ?_, ?_, c3⟩
  · unfold dsK
    rw [if_pos rfl, a1, sb]
    show (mX6_lay I1 F (nI p) (nI κ) 0 v).bind _ = _
    rw [c1, sb]
  · unfold goK
    rw [if_neg (by decide), if_neg (by decide), if_pos rfl, (wr_st S hΓ).1, sb, b1, sb]
    show (mX12_lay B1 J (nI (rwX rl ch p i)) 0 v 0).bind _ = _
    rw [c2, sb]
theorem k_pick (S : STR1 sp k h md D L B0 J0 F I B J np nm dn sd R z p f e Γ ch rl dp ow Gt Ht q mr rk) {i t t' κ u' l' m fs mm j : Nat} {w : List Nat} (hκ : κ < 2 ^ 31) (hΓ : (Γ p)[i]? = some (2, t)) (h49 : gI (L (k + 49)) κ = nI i) (h166 : gI (R 166) p = nI (κ + 1)) (h213 : B 213 p = nI u') (hPR : PR k e.2.1.length (D.take f) L B0 J0 Q Rn Rc m u' (κ + 1) l' ((Γ p).set i (2, t'))) (hm : m ≤ 250 ∧ QH B0 Q) (hK : gI (L (k + 2)) t = (if i = 0 then 43 else 38)) (h4 : gI (L (k + 4)) t = nI fs) (h6 : gI (L (k + 6)) t = nI mm) (hj : j < mm ∧ mm ≤ 6 ∧ t' < 1000) (h10 : gI (L (k + 10)) (fs + j) = nI (cN w)) (h12 : gI (L (k + 12)) (fs + j) = nI t') (hw : isN w) (u : Nat) (b : Int32) :
    OUT sp k h md D L B0 J0 F np dn z p (dsK I F (nI p) (nI κ) (nI (cN w)) 307) (goK B J p u (nI (sg e.2.1.length i)) b (lN (rN w)) 46) := by
  have hcw := cN_lt hw.1
  have hT := S.2.2.2.2.2.2.2.2.2.2.2.2.2.2.1.2.2.2.2.2.2.1 i t hΓ
  have hK1 : (L (k + 2)).length ≤ 1000 := S.1.2.2.2.2.2.2.2.2.1.2.2.1
  have hK5 : (L (k + 10)).length ≤ 500 := S.1.2.2.2.2.2.2.2.2.1.2.2.2.1
  have hl : fs + j < (L (k + 10)).length := gI_lt (by rw [h10]; exact nIm (by omega))
  have hX : TRX k L B0 J0 t' := by
    by_cases c : i = 0
    · rw [if_pos c] at hK
      exact (trx_cho (kd := 43) hT hK1 hK5 hK (Or.inl rfl) h4 h6 (by omega) hj.2.1).1 j t' hj.1 h12 hj.2.2
    · rw [if_neg c] at hK
      exact (trx_cho (kd := 38) hT hK1 hK5 hK (Or.inr rfl) h4 h6 (by omega) hj.2.1).1 j t' hj.1 h12 hj.2.2
  obtain ⟨I', R', B', J', c1, c2, c3⟩ := snd_ok S hκ hΓ h49 h166 h213 hPR hm hX S.2.2.2.1 S.2.2.2.2.1 rfl (fun _ _ _ _ => rfl) (st_hk S).2.2.2.2.2.2.2.2 2 (nI (cN w)) 0 (lN (rN w)) (Or.inr (Or.inr (Or.inl ⟨rfl, rfl, w, hw, rfl, rfl⟩))) (by decide) (fun i0 => by
    rw [if_pos i0] at hK
    exact ⟨by rw [hK]; exact Or.inr (Or.inr (Or.inl rfl)), Or.inr (Or.inr (Or.inl ⟨a_u1_s _ _ _, hK, hj.2.2, fs, mm, j, w, h4, by omega, h6, hj.2.1, hj.1, hw, h10, a_u1_s _ _ _, h12⟩))⟩) (fun i0 => by
    rw [if_neg i0] at hK
    exact ⟨by rw [hK]; exact Or.inr (Or.inr rfl), Or.inr (Or.inr (Or.inl ⟨a_u1_s _ _ _, hK, hj.2.2, fs, mm, j, w, h4, by omega, h6, hj.2.1, hj.1, hw, h10, a_u1_s _ _ _, h12⟩))⟩)
  refine ⟨I', B', J', R', _, _, ?_, ?_, c3⟩
  · unfold dsK
    rw [if_neg (by decide), if_neg (by decide), if_neg (by decide), if_neg (by decide), if_pos rfl, c1, sb]
  · unfold goK
    rw [if_neg (by decide), if_neg (by decide), if_neg (by decide), if_neg (by decide), if_neg (by decide), if_neg (by decide), if_pos rfl, (wr_st S hΓ).1, sb, c2, sb]
end
