/-! AN E INSIDE A STATEMENT (pure) -/
section
variable {k h M n : Nat} {D : List Df} {F : fT} {I B : iT} {J : jT} {L : lT} {bs : List Nat} {t : Tok} {r : List Tok} {md nest wd b z : Nat} {S : List Sl} {a6 a8 a0 : List Int32}
/-- the state of a P behind what changed the Es alone -/
theorem ps_xs {P P' md' : Nat} {I' B' : iT} {J' : jT} {L' : lT} (H : PS k h M n D F I B J L P md nest S a6 a8 a0 wd b z) (HX : XS k h M n F I' B' J' L' P' md' nest nest S a6 a8 a0) (hL : ∀ a, ¬ (k + 19 ≤ a ∧ a ≤ k + 27) → L' a = L a) (hP : P ≤ P') (hc : cS k I I') (hr : rS h md B J B' J') : PS k h M n D F I' B' J' L' P' md' nest S a6 a8 a0 wd b z := by
  obtain ⟨h1, ⟨h2, h3⟩, ⟨n1, n2, n3, n4⟩, h5, ⟨h6, h7, h8, h9⟩, ⟨h10, h11, h12⟩, h13⟩ := H
  have hk := h1.1.1
  have hM := h1.2.2.2.2.1.2.2.2
  refine ⟨HX, ⟨h2, by rw [hr.1 _ _ (by omega) (by omega)]; exact h3⟩, ?_, dd_to h5 h1.2.2.1 (TE_eq (fun a q1 q2 => hL a (by omega))) (hL _ (by omega)) (fun f _ => by rw [hL _ (by omega)]) (fun f _ => by rw [hL _ (by omega)]) (fun f _ => by rw [hL _ (by omega)]) (fun v q1 q2 => ⟨hr.1 _ _ (by omega) (by omega), hr.1 _ _ (by omega) (by omega), hr.1 _ _ (by omega) (by omega), hr.1 _ _ (by omega) (by omega), hr.2 _ _ (by omega) (by omega)⟩) (fun q i hq => hr.1 _ _ (by omega) (by omega)) (fun i => hr.2 _ _ (by omega) (by omega)), ⟨by rw [hr.1 _ _ (by omega) (by omega)]; exact h6, by rw [hc 134 (by omega) (by omega)]; exact h7, h8, h9⟩, ⟨?_, ?_, ?_⟩, h13⟩
  · unfold nodL
    rw [hL _ (by omega), hL _ (by omega), hL _ (by omega), hL _ (by omega), hL _ (by omega), hL _ (by omega)]
    exact ⟨n1, n2, n3, n4⟩
  · rw [hL _ (by omega)]; omega
  · rw [hL _ (by omega)]; omega
  · rw [hL _ (by omega)]; omega
theorem ps_expr (hC : CR I B J bs t r) (H : PS k h M n D F I B J L t.2.2 md nest S a6 a8 a0 wd b z) : ∃ x I' v B' J', mX7_readSum SF I F 0 (nI nest) = some (x, I') ∧ mX12_expression SF B J = some (v, B', J') ∧ ((v = 0 ∧ PL k h b I B J I' B' J') ∨ (v = 1 ∧ ∃ root L' t' r' md' e d, x = nI root ∧ CR I' B' J' bs t' r' ∧ PS k h M n D F I' B' J' L' t'.2.2 md' nest S a6 a8 a0 wd b z ∧ ER k n (nsG (gm S)) L' B' (fun v => 1400 * h + md ≤ v ∧ v < 1400 * h + md') d e root (L (k + 19)).length 28 ∧ B' 186 47 = nI e ∧ SE k L L' ∧ (∀ a, ¬ (k + 19 ≤ a ∧ a ≤ k + 27) → L' a = L a) ∧ md ≤ md' ∧ (L' (k + 19)).length + t.2.2 ≤ (L (k + 19)).length + t'.2.2 ∧ md' + t.2.2 ≤ md + t'.2.2 ∧ t.2.2 < t'.2.2 ∧ cS k I I' ∧ rS h md B J B' J')) := by
  obtain ⟨x, I', v, B', J', e1, e2, HO⟩ := x_all hC H.1
  refine ⟨x, I', v, B', J', e1, e2, ?_⟩
  rcases HO with ⟨h1, h2⟩ | ⟨h1, root, h2, L', t', r', md', e, d, g1, g2, g3, g4, g5, g6, g7, g8, g9, g10, g11, g12, g13⟩
  · exact Or.inl ⟨h1, fail_PL h2 (ps_scp H) (by have := H.2.2.2.2.2.2.2.2; omega)⟩
  · exact Or.inr ⟨h1, root, L', t', r', md', e, d, h2, g1, ps_xs H g2 g7 (by omega) g12 g13, er_ns (ns_gm S) _ _ _ _ _ g4, g5, g6, g7, g8, g9, g10, g11, g12, g13⟩
end
