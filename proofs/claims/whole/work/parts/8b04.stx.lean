/-! ONE STEP OF A RUN: what it starts from, what it leaves (pure) -/
/-- slots of a PROCESS in both -/
def SLX (np : Nat) (rl : Nat → Nat) (ch : Nat → Nat → Nat) (R : lT) (B : iT) (p n : Nat) (G : Gm) : Prop := (∀ (i t : Nat), G[i]? = some (1, t) → gI (R 176) (p * 85 + i) = B 218 (128 * p + sg n i)) ∧ (∀ (i t : Nat), G[i]? = some (2, t) → ∃ x y, gI (R 176) (p * 85 + i) = nI x ∧ B 218 (128 * p + sg n i) = nI y ∧ x < np ∧ y < np ∧ rl x = chX rl ch p i ∧ rl y = chX rl ch p i)
def STR1 (sp : Int32) (k h md : Nat) (D : List Df) (L : lT) (B0 : iT) (J0 : jT) (F : fT) (I B : iT) (J : jT) (np nm dn sd : Nat) (R : lT) (z : Nat → Prop) (p f : Nat) (e : Df) (Γ : Nat → Gm) (ch : Nat → Nat → Nat) (rl dp : Nat → Nat) (ow : Nat → Nat × Nat × Nat) (Gt Ht : Nat → Nat) (q : Nat → List Nat) (mr rk : Nat → Nat) : Prop :=
  BK k h md D L B0 J0 ∧ SB h B0 J0 B J ∧ F 148 12 = k ∧ RK I k L ∧ RN I R ∧ PCc np R B ∧ SCA sp np nm dn sd I B ∧ SAI sd R B ∧ TYI k L np nm (fun p => gI (R 168) p = 0) Γ ch rl ow Gt Ht q mr rk (gI (R 158)) (gI (R 160)) ∧ CHC np R B rl dp ∧ (∀ x, x < np → dp x ≤ cO (R 168)) ∧ CHL np nm R ∧ QAL np rl q R B J ∧ (∀ p', p' < np → p' ≠ p → gI (R 168) p' = 0 → PRC k D L B0 J0 np rl ch R B z p' (Γ p')) ∧ (p < np ∧ gI (R 168) p = 0 ∧ D[f]? = some e ∧ gI (R 164) p = nI f ∧ e.2.1.length + 1 ≤ (Γ p).length ∧ (Γ p).length ≤ 85 ∧ (∀ (i t : Nat), (Γ p)[i]? = some (2, t) → TRX k L B0 J0 t) ∧ SLX np rl ch R B p e.2.1.length (Γ p)) ∧ nm < dn ∧ sd < dn
/-- what a step of p leaves alone, in both -/
def MF (p : Nat) (B B' : iT) : Prop := ∀ q i, ((187 ≤ q ∧ q ≤ 205) ∨ (q = 186 ∧ i ≠ 63 ∧ i ≠ 64 ∧ i ≠ 76 ∧ i ≠ 78) ∨ q = 212 ∨ q = 214 ∨ q = 215 ∨ q = 220 ∨ (q = 213 ∧ i ≠ p) ∨ ((q = 216 ∨ q = 217 ∨ q = 219) ∧ i ≠ p) ∨ (q = 218 ∧ (i < 128 * p ∨ 128 * p + 128 ≤ i))) → B' q i = B q i
def CF (p : Nat) (R R' : lT) : Prop := (∀ a, (a = 150 ∨ a = 164 ∨ a = 170) → R' a = R a) ∧ (∀ a, (a = 166 ∨ a = 168 ∨ a = 172 ∨ a = 174 ∨ a = 176) → (R' a).length = (R a).length) ∧ (∀ a j, (a = 166 ∨ a = 168 ∨ a = 172 ∨ a = 174) → j ≠ p → gI (R' a) j = gI (R a) j) ∧ (∀ j, (j < p * 85 ∨ p * 85 + 85 ≤ j) → gI (R' 176) j = gI (R 176) j) ∧ gI (R' 176) (p * 85) = gI (R 176) (p * 85)
section
variable {sp : Int32} {k h md : Nat} {D : List Df} {L : lT} {B0 : iT} {J0 : jT} {F : fT} {I B : iT} {J : jT} {np nm dn sd : Nat} {R : lT} {z : Nat → Prop} {p f : Nat} {e : Df} {Γ : Nat → Gm} {ch : Nat → Nat → Nat} {rl dp : Nat → Nat} {ow : Nat → Nat × Nat × Nat} {Gt Ht : Nat → Nat} {q : Nat → List Nat} {mr rk : Nat → Nat}
theorem bk_def (H : BK k h md D L B0 J0) {f : Nat} {e : Df} (hf : D[f]? = some e) : f < 12 ∧ e.2.1.length ≤ 4 ∧ B0 198 (12 * h + f) = nI e.2.1.length := by
  obtain ⟨_, _, _, _, _, ⟨_, _, d3, d4⟩, _⟩ := H
  obtain ⟨_, _, _, _, _, a1, a2, _⟩ := d4 f e hf
  have := (List.getElem?_eq_some_iff.mp hf).1
  exact ⟨by omega, a2, a1⟩
theorem sb_mf {B' : iT} {J' : jT} (H : SB h B0 J0 B J) (hMF : MF p B B') (h76 : B' 186 76 = nI 0) (hJ : ∀ q i, q ≠ 226 → J' q i = J q i) : SB h B0 J0 B' J' := by
  obtain ⟨a1, a2, a3, a4, a5⟩ := H
  refine ⟨fun q w1 w2 => ?_, fun q w1 w2 => ?_, by rw [hMF _ _ (by omega)]; exact a3, by rw [hMF _ _ (by omega)]; exact a4, h76⟩
  · rw [← a1 q w1 w2]
    exact funext fun i => hMF _ _ (by omega)
  · rw [← a2 q w1 w2]
    exact funext fun i => hJ _ _ (by omega)
theorem out9 (S : STR1 sp k h md D L B0 J0 F I B J np nm dn sd R z p f e Γ ch rl dp ow Gt Ht q mr rk) {I' B' : iT} {J' : jT} {R' : lT} {nm' sd' : Nat} {G' : Gm} {ch' : Nat → Nat → Nat} {ow' : Nat → Nat × Nat × Nat} {Gt' Ht' : Nat → Nat} {q' : Nat → List Nat} {mr' rk' : Nat → Nat} (hK' : RK I' k L) (hN' : RN I' R') (hMF : MF p B B') (h76 : B' 186 76 = nI 0) (hJ : ∀ q i, q ≠ 226 → J' q i = J q i) (hCF : CF p R R') (hSC : SCA sp np nm' dn sd' I' B') (hSA : SAI sd' R' B')
    (hat : (gI (R' 168) p = 0 ∨ gI (R' 168) p = 1) ∧ B' 219 p = gI (R' 168) p ∧ B' 216 p = gI (R' 174) p ∧ (gI (R' 168) p = 0 → B' 217 p = gI (R' 172) p) ∧ (gI (R' 168) p = 1 → gI (R' 172) p = 0)) (hT : TYI k L np nm' (fun p => gI (R' 168) p = 0) (a_u1 Γ p G') ch' rl ow' Gt' Ht' q' mr' rk' (gI (R' 158)) (gI (R' 160))) (hch : ∀ p' i, p' ≠ p → ch' p' i = ch p' i) (hdp : cO (R 168) ≤ cO (R' 168)) (hCL : CHL np nm' R') (hQ : QAL np rl q' R' B' J')
    (hP : gI (R' 168) p = 0 → ∃ (u κ l m : Nat) (Q Rn Rc : Nat → Prop), gI (R' 166) p = nI κ ∧ B' 213 p = nI u ∧ PR k e.2.1.length (D.take f) L B0 J0 Q Rn Rc m u κ l G' ∧ (m ≤ 250 ∧ QH B0 Q) ∧ e.2.1.length + 1 ≤ G'.length ∧ G'.length ≤ 85 ∧ (∀ (i t : Nat), G'[i]? = some (2, t) → TRX k L B0 J0 t) ∧ SLX np rl ch' R' B' p e.2.1.length G') :
    RUN sp k h md D L B0 J0 F I' B' J' np nm' dn sd' R' (fun x => z x ∧ x ≠ p) := by
  obtain ⟨s1, s2, s3, s4, s5, s6, s7, s8, s9, s10, s11, s12, s13, s14, ⟨t1, t2, t3, t4, t5, t6, t7, t8⟩, s15, s16⟩ := S
  obtain ⟨c1, c2, c3, c4, c5⟩ := hCF
  obtain ⟨⟨b1, b2, b3, b4, b5, b6, b7⟩, p1⟩ := s6
  refine ⟨s1, sb_mf s2 hMF h76 hJ, s3, hK', hN', ⟨⟨by rw [c1 _ (by omega)]; exact b1, by rw [c2 _ (by omega)]; exact b2, by rw [c2 _ (by omega)]; exact b3, by rw [c1 _ (by omega)]; exact b4, by rw [c2 _ (by omega)]; exact b5, by rw [c2 _ (by omega)]; exact b6, by rw [c2 _ (by omega)]; exact b7⟩, fun x hx => ?_⟩, hSC, hSA, a_u1 Γ p G', ch', rl, dp, ow', Gt', Ht', q', mr', rk', hT, chc_keep s10 (c1 _ (by omega)) (fun i => hMF _ _ (by omega)), fun x hx => Nat.le_trans (s11 x hx) hdp, hCL, hQ, fun x hx hal => ?_⟩
  · obtain ⟨g1, g2, g3, g4, g5, g6, g7, g8, g9⟩ := p1 x hx
    rw [c1 170 (by omega), c1 164 (by omega), hMF 215 x (by omega), hMF 214 x (by omega), hMF 212 x (by omega)]
    by_cases e0 : x = p
    · subst e0
      obtain ⟨h1, h2, h3, h4, h5⟩ := hat
      exact ⟨h1, h2, g3, h3, g5, g6, h4, h5, by rw [c5]; exact g9⟩
    · rw [c3 168 x (by omega) e0, c3 172 x (by omega) e0, c3 174 x (by omega) e0, c4 (x * 85) (by omega), hMF 219 x (by omega), hMF 216 x (by omega), hMF 217 x (by omega)]
      exact ⟨g1, g2, g3, g4, g5, g6, g7, g8, g9⟩
  · by_cases e0 : x = p
    · subst e0
      rw [a_u1_s]
      obtain ⟨u, κ, l, m, Q, Rn, Rc, h1, h2, h3, h4, h5, h6, h7, h8⟩ := hP hal
      exact ⟨f, e, u, κ, l, m, Q, Rn, Rc, t3, by rw [c1 _ (by omega)]; exact t4, h1, h2, h3, h4, h5, h6, h7, h8.1, h8.2, fun hz => absurd rfl hz.2⟩
    · rw [a_u1_n _ _ e0]
      have hal' : gI (R 168) x = 0 := by rw [← c3 168 x (by omega) e0]; exact hal
      exact prc_keep (σ := id) (s14 x hx e0 hal') (fun f e hf => (bk_def s1 hf).2.1) (by rw [c1 _ (by omega)]) (c3 _ _ (by omega) e0) (hMF _ _ (by omega)) (fun i hi => c4 _ (by omega)) (fun i hi => hMF _ _ (by omega)) (Nat.le_refl _) (fun x _ => rfl) (fun i t _ => by unfold chX; rw [hch _ _ e0]; rfl) (fun hz => hz.1)
/-- slots of one whose places are the same -/
theorem slx_keep {n : Nat} {R' : lT} {B' : iT} {G G' : Gm} (H : SLX np rl ch R B p n G) (hn : n ≤ 4) (hl : G'.length ≤ 85) (hG : ∀ (i s t : Nat), s ≠ 0 → G'[i]? = some (s, t) → ∃ t', G[i]? = some (s, t')) (h1 : ∀ i, i < 85 → gI (R' 176) (p * 85 + i) = gI (R 176) (p * 85 + i)) (h2 : ∀ i, i < 128 → B' 218 (128 * p + i) = B 218 (128 * p + i)) : SLX np rl ch R' B' p n G' := by
  have lt : ∀ (i : Nat) (x : Nat × Nat), G'[i]? = some x → i < 85 := fun i x hx => by
    have := (List.getElem?_eq_some_iff.mp hx).1
    omega
  refine ⟨fun i t hi => ?_, fun i t hi => ?_⟩
  · obtain ⟨t', ht⟩ := hG i 1 t (by omega) hi
    have hl := lt i _ hi
    have hsg := sg_spec n i
    rw [h1 i hl, h2 _ (by omega)]
    exact H.1 i t' ht
  · obtain ⟨t', ht⟩ := hG i 2 t (by omega) hi
    have hl := lt i _ hi
    have hsg := sg_spec n i
    rw [h1 i hl, h2 _ (by omega)]
    exact H.2 i t' ht
/-- ... and of one that gets a new place -/
theorem slx_new {n : Nat} {R' : lT} {B' : iT} {G G' : Gm} {x : Nat × Nat} {ch' : Nat → Nat → Nat} (H : SLX np rl ch R B p n G) (hn : n ≤ 4) (hn1 : n + 1 ≤ G.length) (hl : G.length < 85) (hg : G'.length = G.length) (hG : ∀ (i s t : Nat), s ≠ 0 → G'[i]? = some (s, t) → ∃ t', G[i]? = some (s, t')) (hch : ∀ i, i ≠ G.length → ch' p i = ch p i) (h1 : ∀ i, i < 85 → i ≠ G.length → gI (R' 176) (p * 85 + i) = gI (R 176) (p * 85 + i)) (h2 : ∀ i, i < 128 → i ≠ G.length → B' 218 (128 * p + i) = B 218 (128 * p + i))
    (hx1 : x.1 = 1 → gI (R' 176) (p * 85 + G.length) = B' 218 (128 * p + G.length)) (hx2 : x.1 = 2 → ∃ v y, gI (R' 176) (p * 85 + G.length) = nI v ∧ B' 218 (128 * p + G.length) = nI y ∧ v < np ∧ y < np ∧ rl v = ch' p G.length ∧ rl y = ch' p G.length) : SLX np rl ch' R' B' p n (G' ++ [x]) := by
  have lt : ∀ (i : Nat) (y : Nat × Nat), (G' ++ [x])[i]? = some y → (i < G.length ∧ G'[i]? = some y) ∨ (i = G.length ∧ x = y) := fun i y hy => by
    by_cases c : i < G'.length
    · rw [List.getElem?_append_left c] at hy
      exact Or.inl ⟨by omega, hy⟩
    · have := (List.getElem?_eq_some_iff.mp hy).1
      rw [List.length_append, List.length_singleton] at this
      have e : i = G'.length := by omega
      subst e
      rw [List.getElem?_append_right (Nat.le_refl _), Nat.sub_self] at hy
      exact Or.inr ⟨hg, by simpa using hy⟩
  have e1 : sg n G.length = G.length := by have := sg_spec n G.length; omega
  refine ⟨fun i t hi => ?_, fun i t hi => ?_⟩
  · rcases lt i _ hi with ⟨a, b⟩ | ⟨a, b⟩
    · obtain ⟨t', ht⟩ := hG i 1 t (by omega) b
      have hsg := sg_spec n i
      rw [h1 i (by omega) (by omega), h2 _ (by omega) (by omega)]
      exact H.1 i t' ht
    · subst a b
      rw [e1]
      exact hx1 rfl
  · rcases lt i _ hi with ⟨a, b⟩ | ⟨a, b⟩
    · obtain ⟨t', ht⟩ := hG i 2 t (by omega) b
      have hsg := sg_spec n i
      rw [h1 i (by omega) (by omega), h2 _ (by omega) (by omega)]
      have : chX rl ch' p i = chX rl ch p i := by unfold chX; rw [hch i (by omega)]
      rw [this]
      exact H.2 i t' ht
    · subst a b
      have : chX rl ch' p G.length = ch' p G.length := by unfold chX; rw [if_neg (by omega)]
      rw [e1, this]
      exact hx2 rfl
end
