/-! THE BOOK BETWEEN TWO DEFS (pure) -/
def DX (k h md : Nat) (L : lT) (B : iT) (J : jT) (D : List Df) : Prop := (∀ j, j < (L (k + 47)).length → EB (gI (L (k + 53)) j)) ∧ ∀ (f : Nat) (e : Df), D[f]? = some e → ∃ u κ l m w, B 201 (12 * h + f) = nI u ∧ gI (L (k + 37)) f = nI κ ∧ gI (L (k + 41)) f = nI l ∧ gI (L (k + 39)) f = nI w ∧ B 202 (12 * h + f) = nI w ∧ m ≤ 250 ∧ l ≤ m ∧ PR k e.2.1.length (D.take f) L B J (fun v => 1400 * h ≤ v ∧ v < 1400 * h + md) (fun κ => κ < (L (k + 47)).length) (fun c => c < (L (k + 55)).length) m u κ l ((2, e.2.2) :: e.2.1) ∧ (∀ i, e.2.1.length ≤ i → i < 4 → gI (L (k + 45)) (f * 4 + i) = -1)
def BS (k h : Nat) (W : List Ent) (D : List Df) (F : fT) (I B : iT) (J : jT) (L : lT) (P md b : Nat) : Prop :=
  BT k h (1400 * h + md) W F I B J L P md ∧ (F 134 4 = k ∧ F 147 2 = k + 18) ∧ sumL k L ∧ nodL k L ∧ DD k h (1400 * h + md) L B J D ∧ DX k h md L B J D ∧ (SCP b I ∧ 85 ≤ b ∧ b ≤ 9000) ∧ ((L (k + 19)).length ≤ P ∧ 4 * (L (k + 47)).length ≤ P ∧ 2 * (L (k + 59)).length ≤ P ∧ 3 * (L (k + 55)).length ≤ P) ∧ ((L (k + 35)).length = D.length ∧ (L (k + 37)).length = D.length ∧ (L (k + 39)).length = D.length ∧ (L (k + 41)).length = D.length ∧ (L (k + 43)).length = D.length ∧ (L (k + 45)).length = 4 * D.length)
/-- what the DEFS ahead ask of a later state -/
def FRD (k h nD md : Nat) (L L' : lT) (B B' : iT) (J J' : jT) : Prop :=
  PK k L L' B B' J J' (fun v => 1400 * h ≤ v ∧ v < 1400 * h + md) (fun κ => κ < (L (k + 47)).length) (fun c => c < (L (k + 55)).length) ∧ (∀ f, f < nD → (gI (L' (k + 35)) f = gI (L (k + 35)) f ∧ gI (L' (k + 37)) f = gI (L (k + 37)) f ∧ gI (L' (k + 39)) f = gI (L (k + 39)) f ∧ gI (L' (k + 41)) f = gI (L (k + 41)) f ∧ gI (L' (k + 43)) f = gI (L (k + 43)) f)) ∧ (∀ f, f < 4 * nD → gI (L' (k + 45)) f = gI (L (k + 45)) f) ∧ (∀ f, f < nD → (B' 198 (12 * h + f) = B 198 (12 * h + f) ∧ B' 200 (12 * h + f) = B 200 (12 * h + f) ∧ B' 201 (12 * h + f) = B 201 (12 * h + f) ∧ B' 202 (12 * h + f) = B 202 (12 * h + f) ∧ J' 194 (12 * h + f) = J 194 (12 * h + f) ∧ ∀ i, i < 4 → B' 199 (4 * (12 * h + f) + i) = B 199 (4 * (12 * h + f) + i)))
section
variable {k h : Nat} {D : List Df} {L L' : lT} {B B' : iT} {J J' : jT} {md md' : Nat}
theorem exb_eq {k : Nat} {L L' : lT} (h1 : L' (k + 47) = L (k + 47)) (h2 : L' (k + 53) = L (k + 53)) : EXB k L L' := by
  unfold EXB
  rw [h1, h2]
  exact fun H => H
theorem lt_get {f : Nat} {e : Df} (he : D[f]? = some e) : f < D.length := (List.getElem?_eq_some_iff.mp he).1
theorem dx_to (H : DX k h md L B J D) (hF : FRD k h D.length md L L' B B' J J') (hm : md ≤ md') (hX : EXB k L L') : DX k h md' L' B' J' D := by
  refine ⟨hX H.1, fun f e he => ?_⟩
  have hf := lt_get he
  obtain ⟨u, κ, l, m, w, y1, y2, y3, y4, y5, y6, y7, y8, y9⟩ := H.2 f e he
  obtain ⟨p1, p2, p3, p4⟩ := hF
  obtain ⟨a1, a2, a3, a4, a5⟩ := p2 f hf
  obtain ⟨b1, b2, b3, b4, b5, b6⟩ := p4 f hf
  have hl := p1.2.2.2.2.2
  refine ⟨u, κ, l, m, w, by rw [b3]; exact y1, by rw [a2]; exact y2, by rw [a4]; exact y3, by rw [a3]; exact y4, by rw [b4]; exact y5, y6, y7, pr_to p1 (fun v hv => ⟨hv.1, by omega⟩) (fun v hv => Nat.lt_of_lt_of_le hv hl.1) (fun v hv => Nat.lt_of_lt_of_le hv hl.2.1) m m (Nat.le_refl _) _ _ _ _ y8, fun i w1 w2 => by rw [p3 _ (by omega)]; exact y9 i w1 w2⟩
/-- a DEF joins -/
theorem dd_snoc {e : Df} {u p : Nat} (H : DD k h (1400 * h + md) L B J D) (hF : FRD k h D.length md L L' B B' J J') (hm : md ≤ md') (hl : D.length < 12) (h33 : L' (k + 33) = L (k + 33) ++ [nI (cN e.1)]) (h205 : B' 205 h = nI (D.length + 1)) (g1 : J' 194 (12 * h + D.length) = lN (rN e.1)) (g2 : isN e.1) (g3 : gI (L' (k + 35)) D.length = nI e.2.2) (g4 : B' 200 (12 * h + D.length) = nI u) (g5 : p ≤ 200) (g6 : TR k L' B' J' (fun v => 1400 * h ≤ v ∧ v < 1400 * h + md') p u e.2.2 p) (g7 : gI (L' (k + 43)) D.length = nI e.2.1.length) (g8 : B' 198 (12 * h + D.length) = nI e.2.1.length) (g9 : e.2.1.length ≤ 4) (g10 : ∀ (i : Nat) (q : Nat × Nat), e.2.1[i]? = some q → ((q.1 = 1 ∧ gI (L' (k + 45)) (D.length * 4 + i) = -1 ∧ B' 199 (4 * (12 * h + D.length) + i) = -1) ∨ (q.1 = 2 ∧ gI (L' (k + 45)) (D.length * 4 + i) = nI q.2 ∧ ∃ u p, B' 199 (4 * (12 * h + D.length) + i) = nI u ∧ p ≤ 200 ∧ TR k L' B' J' (fun v => 1400 * h ≤ v ∧ v < 1400 * h + md') p u q.2 p))) : DD k h (1400 * h + md') L' B' J' (D ++ [e]) := by
  obtain ⟨c1, c2, c3, c4⟩ := H
  obtain ⟨p1, p2, p3, p4⟩ := hF
  have hA : ∀ v, (1400 * h ≤ v ∧ v < 1400 * h + md) → (B' 188 v = B 188 v ∧ B' 189 v = B 189 v ∧ B' 190 v = B 190 v ∧ B' 191 v = B 191 v ∧ J' 192 v = J 192 v) := p1.2.2.2.2.2.2.2.1
  have tr2 : ∀ {p u t : Nat}, TR k L B J (fun v => 1400 * h ≤ v ∧ v < 1400 * h + md) p u t p → TR k L' B' J' (fun v => 1400 * h ≤ v ∧ v < 1400 * h + md') p u t p := fun z => tr_to p1.1 p1.2.1 hA (fun v hv => ⟨hv.1, by omega⟩) _ _ _ _ _ (Nat.le_refl _) z
  have hlen : (D ++ [e]).length = D.length + 1 := by rw [List.length_append]; rfl
  refine ⟨by rw [h33, c1, List.map_append]; rfl, by rw [hlen]; exact h205, by omega, fun f e' he => ?_⟩
  rcases Nat.lt_or_ge f D.length with x | x
  · rw [List.getElem?_append_left x] at he
    obtain ⟨w1, w2, w3, ⟨u', p', w4, w5, w6⟩, w7, w8, w9, w10⟩ := c4 f e' he
    obtain ⟨a1, a2, a3, a4, a5⟩ := p2 f x
    obtain ⟨b1, b2, b3, b4, b5, b6⟩ := p4 f x
    refine ⟨by rw [b5]; exact w1, w2, by rw [a1]; exact w3, ⟨u', p', by rw [b2]; exact w4, w5, tr2 w6⟩, by rw [a5]; exact w7, by rw [b1]; exact w8, w9, fun i q hq => ?_⟩
    have hi : i < e'.2.1.length := (List.getElem?_eq_some_iff.mp hq).1
    rw [p3 _ (by omega), b6 i (by omega)]
    rcases w10 i q hq with z | ⟨z1, z2, u2, p2', z3, z4, z5⟩
    · exact Or.inl z
    · exact Or.inr ⟨z1, z2, u2, p2', z3, z4, tr2 z5⟩
  · rw [List.getElem?_append_right x] at he
    have hi0 : f = D.length := by
      have := (List.getElem?_eq_some_iff.mp he).1
      rw [List.length_singleton] at this
      omega
    subst hi0
    rw [Nat.sub_self] at he
    have he : e = e' := Option.some.inj he
    subst he
    exact ⟨g1, g2, g3, ⟨u, p, g4, g5, g6⟩, g7, g8, g9, g10⟩
theorem dx_snoc {e : Df} {u κ l m w : Nat} (H : DX k h md L B J D) (hF : FRD k h D.length md L L' B B' J J') (hm : md ≤ md') (g1 : B' 201 (12 * h + D.length) = nI u) (g2 : gI (L' (k + 37)) D.length = nI κ) (g3 : gI (L' (k + 41)) D.length = nI l) (g4 : gI (L' (k + 39)) D.length = nI w) (g5 : B' 202 (12 * h + D.length) = nI w) (g6 : m ≤ 250) (g7 : l ≤ m) (g8 : PR k e.2.1.length D L' B' J' (fun v => 1400 * h ≤ v ∧ v < 1400 * h + md') (fun κ => κ < (L' (k + 47)).length) (fun c => c < (L' (k + 55)).length) m u κ l ((2, e.2.2) :: e.2.1)) (g9 : ∀ i, e.2.1.length ≤ i → i < 4 → gI (L' (k + 45)) (D.length * 4 + i) = -1) (hX : EXB k L L') : DX k h md' L' B' J' (D ++ [e]) := by
  refine ⟨hX H.1, fun f e' he => ?_⟩
  rcases Nat.lt_or_ge f D.length with x | x
  · rw [List.getElem?_append_left x] at he
    obtain ⟨u, κ, l, m, w, y1, y2, y3, y4, y5, y6, y7, y8, y9⟩ := (dx_to H hF hm hX).2 f e' he
    exact ⟨u, κ, l, m, w, y1, y2, y3, y4, y5, y6, y7, by rw [List.take_append_of_le_length (by omega)]; exact y8, y9⟩
  · rw [List.getElem?_append_right x] at he
    have hi0 : f = D.length := by
      have := (List.getElem?_eq_some_iff.mp he).1
      rw [List.length_singleton] at this
      omega
    subst hi0
    rw [Nat.sub_self] at he
    have he : e = e' := Option.some.inj he
    subst he
    exact ⟨u, κ, l, m, w, g1, g2, g3, g4, g5, g6, g7, by rw [List.take_append_of_le_length (Nat.le_refl _), List.take_length]; exact g8, g9⟩
theorem dd_M {M M' : Nat} (hT : tabL k L) (H : DD k h M L B J D) (hM : M ≤ M') : DD k h M' L B J D := by
  obtain ⟨c1, c2, c3, c4⟩ := H
  refine ⟨c1, c2, c3, fun f e he => ?_⟩
  obtain ⟨w1, w2, w3, ⟨u', p', w4, w5, w6⟩, w7, w8, w9, w10⟩ := c4 f e he
  refine ⟨w1, w2, w3, ⟨u', p', w4, w5, tr_Q hT (fun v hv => ⟨hv.1, by omega⟩) (Nat.le_refl _) w6⟩, w7, w8, w9, fun i q hq => ?_⟩
  rcases w10 i q hq with z | ⟨z1, z2, u2, p2', z3, z4, z5⟩
  · exact Or.inl z
  · exact Or.inr ⟨z1, z2, u2, p2', z3, z4, tr_Q hT (fun v hv => ⟨hv.1, by omega⟩) (Nat.le_refl _) z5⟩
/-- the DEFS ahead while the head of the next one is read -/
theorem dd_hf {I I' : iT} (H : DD k h (1400 * h + md) L B J D) (hT : tabL k L) (hf : HF k h (12 * h + D.length) md I B J L I' B' J' L') (hm : md ≤ md') (hl : D.length < 12) (h43 : ∀ f, f < D.length → gI (L' (k + 43)) f = gI (L (k + 43)) f) (h45 : ∀ f, f < 4 * D.length → gI (L' (k + 45)) f = gI (L (k + 45)) f) (hT' : tabL k L') : DD k h (1400 * h + md') L' B' J' D := by
  obtain ⟨c1, c2, c3, c4⟩ := H
  have hA : ∀ v, (1400 * h ≤ v ∧ v < 1400 * h + md) → (B' 188 v = B 188 v ∧ B' 189 v = B 189 v ∧ B' 190 v = B 190 v ∧ B' 191 v = B 191 v ∧ J' 192 v = J 192 v) := fun v hv => ⟨hf.2.2.2.1 _ _ (by omega) (by omega) (by omega) (by omega) (by omega), hf.2.2.2.1 _ _ (by omega) (by omega) (by omega) (by omega) (by omega), hf.2.2.2.1 _ _ (by omega) (by omega) (by omega) (by omega) (by omega), hf.2.2.2.1 _ _ (by omega) (by omega) (by omega) (by omega) (by omega), hf.2.2.2.2.1 _ _ (by omega) (by omega) (by omega) (by omega)⟩
  have tr2 : ∀ {p u t : Nat}, TR k L B J (fun v => 1400 * h ≤ v ∧ v < 1400 * h + md) p u t p → TR k L' B' J' (fun v => 1400 * h ≤ v ∧ v < 1400 * h + md') p u t p := fun z => tr_to hT hf.1 hA (fun v hv => ⟨hv.1, by omega⟩) _ _ _ _ _ (Nat.le_refl _) z
  have fB : ∀ q i, (q = 198 ∨ q = 200 ∨ q = 205 ∨ (q = 199 ∧ i < 4 * (12 * h + D.length))) → B' q i = B q i := fun q i w => hf.2.2.2.1 q i (by omega) (by omega) (by omega) (by omega) (by omega)
  refine ⟨by rw [hf.2.1 _ (by omega) (by omega) (by omega)]; exact c1, by rw [fB _ _ (by omega)]; exact c2, c3, fun f e he => ?_⟩
  have hf' := lt_get he
  obtain ⟨w1, w2, w3, ⟨u', p', w4, w5, w6⟩, w7, w8, w9, w10⟩ := c4 f e he
  refine ⟨by rw [hf.2.2.2.2.1 _ _ (by omega) (by omega) (by omega) (by omega)]; exact w1, w2, by rw [hf.2.1 _ (by omega) (by omega) (by omega)]; exact w3, ⟨u', p', by rw [fB _ _ (by omega)]; exact w4, w5, tr2 w6⟩, by rw [h43 f hf']; exact w7, by rw [fB _ _ (by omega)]; exact w8, w9, fun i q hq => ?_⟩
  have hi : i < e.2.1.length := (List.getElem?_eq_some_iff.mp hq).1
  rw [h45 _ (by omega), fB _ _ (by omega)]
  rcases w10 i q hq with z | ⟨z1, z2, u2, p2', z3, z4, z5⟩
  · exact Or.inl z
  · exact Or.inr ⟨z1, z2, u2, p2', z3, z4, tr2 z5⟩
end
