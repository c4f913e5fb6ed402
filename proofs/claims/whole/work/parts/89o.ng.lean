/-! A NODE OF A P GROWS in the class; the end of a statement (pure) -/
def NG (k : Nat) (L L' : lT) (op c o e : Int32) : Prop :=
  SE k L L' ∧ (∀ a, ¬ (k + 19 ≤ a ∧ a ≤ k + 59) → L' a = L a) ∧ (∀ a, (k + 29 ≤ a ∧ a ≤ k + 46) ∨ (k + 54 ≤ a ∧ a ≤ k + 58) → L' a = L a) ∧ L' (k + 47) = L (k + 47) ++ [op] ∧ L' (k + 49) = L (k + 49) ++ [c] ∧ L' (k + 51) = L (k + 51) ++ [o] ∧ L' (k + 53) = L (k + 53) ++ [e] ∧ ∃ r, L' (k + 59) = L (k + 59) ++ r
theorem set_last {l : List Int32} {j : Nat} (h : l.length = j) (x v : Int32) : (l ++ [x]).set j v = l ++ [v] := by
  subst h
  simp
section
variable {k : Nat} {L L' : lT} {op c o e : Int32}
theorem ng_ad4 (op : Int32) : NG k L (ad4 k L op) op (-1) (-1) (-1) := ⟨fun a w1 w2 => ⟨[], by rw [ad4_n _ (by omega), List.append_nil]⟩, fun a w => ad4_n _ (by omega), fun a w => ad4_n _ (by omega), ad4_47 _, ad4_49 _, ad4_51 _, ad4_53 _, [], by rw [ad4_n _ (by omega), List.append_nil]⟩
theorem ng_49 (hn : nodL k L) (N : NG k L L' op c o e) (v : Int32) : NG k L (upL L' (k + 49) ((L' (k + 49)).set (L (k + 47)).length v)) op v o e := by
  obtain ⟨n1, n2, n3, n4, n5, n6, n7, n8⟩ := N
  refine ⟨fun a w1 w2 => by rw [upL_n _ _ (by omega)]; exact n1 a w1 w2, fun a w => by rw [upL_n _ _ (by omega)]; exact n2 a w, fun a w => by rw [upL_n _ _ (by omega)]; exact n3 a w, by rw [upL_n _ _ (by omega)]; exact n4, by rw [upL_s, n5, set_last hn.1], by rw [upL_n _ _ (by omega)]; exact n6, by rw [upL_n _ _ (by omega)]; exact n7, by rw [upL_n _ _ (by omega)]; exact n8⟩
theorem ng_51 (hn : nodL k L) (N : NG k L L' op c o e) (v : Int32) : NG k L (upL L' (k + 51) ((L' (k + 51)).set (L (k + 47)).length v)) op c v e := by
  obtain ⟨n1, n2, n3, n4, n5, n6, n7, n8⟩ := N
  refine ⟨fun a w1 w2 => by rw [upL_n _ _ (by omega)]; exact n1 a w1 w2, fun a w => by rw [upL_n _ _ (by omega)]; exact n2 a w, fun a w => by rw [upL_n _ _ (by omega)]; exact n3 a w, by rw [upL_n _ _ (by omega)]; exact n4, by rw [upL_n _ _ (by omega)]; exact n5, by rw [upL_s, n6, set_last hn.2.1], by rw [upL_n _ _ (by omega)]; exact n7, by rw [upL_n _ _ (by omega)]; exact n8⟩
theorem ng_53 (hn : nodL k L) (N : NG k L L' op c o e) (v : Int32) : NG k L (upL L' (k + 53) ((L' (k + 53)).set (L (k + 47)).length v)) op c o v := by
  obtain ⟨n1, n2, n3, n4, n5, n6, n7, n8⟩ := N
  refine ⟨fun a w1 w2 => by rw [upL_n _ _ (by omega)]; exact n1 a w1 w2, fun a w => by rw [upL_n _ _ (by omega)]; exact n2 a w, fun a w => by rw [upL_n _ _ (by omega)]; exact n3 a w, by rw [upL_n _ _ (by omega)]; exact n4, by rw [upL_n _ _ (by omega)]; exact n5, by rw [upL_n _ _ (by omega)]; exact n6, by rw [upL_s, n7, set_last hn.2.2.1], by rw [upL_n _ _ (by omega)]; exact n8⟩
theorem ng_59 (N : NG k L L' op c o e) (v : Int32) : NG k L (upL L' (k + 59) (L' (k + 59) ++ [v])) op c o e := by
  obtain ⟨n1, n2, n3, n4, n5, n6, n7, r, n8⟩ := N
  refine ⟨fun a w1 w2 => by rw [upL_n _ _ (by omega)]; exact n1 a w1 w2, fun a w => by rw [upL_n _ _ (by omega)]; exact n2 a w, fun a w => by rw [upL_n _ _ (by omega)]; exact n3 a w, by rw [upL_n _ _ (by omega)]; exact n4, by rw [upL_n _ _ (by omega)]; exact n5, by rw [upL_n _ _ (by omega)]; exact n6, by rw [upL_n _ _ (by omega)]; exact n7, r ++ [v], by rw [upL_s, n8, List.append_assoc]⟩
theorem ng_x {L'' : lT} (N : NG k L L' op c o e) (hS : SE k L' L'') (hL : ∀ a, ¬ (k + 19 ≤ a ∧ a ≤ k + 27) → L'' a = L' a) : NG k L L'' op c o e := by
  obtain ⟨n1, n2, n3, n4, n5, n6, n7, n8⟩ := N
  exact ⟨n1.trans hS, fun a w => by rw [hL _ (by omega)]; exact n2 a w, fun a w => by rw [hL _ (by omega)]; exact n3 a w, by rw [hL _ (by omega)]; exact n4, by rw [hL _ (by omega)]; exact n5, by rw [hL _ (by omega)]; exact n6, by rw [hL _ (by omega)]; exact n7, by rw [hL _ (by omega)]; exact n8⟩
theorem gI_la {l : List Int32} {j : Nat} (h : l.length = j) (v : Int32) : gI (l ++ [v]) j = v := by
  subst h
  exact gI_e _ _
theorem ng_g (hn : nodL k L) (N : NG k L L' op c o e) : gI (L' (k + 47)) (L (k + 47)).length = op ∧ gI (L' (k + 49)) (L (k + 47)).length = c ∧ gI (L' (k + 51)) (L (k + 47)).length = o ∧ gI (L' (k + 53)) (L (k + 47)).length = e ∧ (L' (k + 47)).length = (L (k + 47)).length + 1 := by
  obtain ⟨n1, n2, n3, n4, n5, n6, n7, n8⟩ := N
  exact ⟨by rw [n4]; exact gI_la rfl _, by rw [n5]; exact gI_la hn.1 _, by rw [n6]; exact gI_la hn.2.1 _, by rw [n7]; exact gI_la hn.2.2.1 _, by rw [n4]; simp⟩
theorem exb_snoc {x v : Int32} (h : (L (k + 53)).length = (L (k + 47)).length) (h1 : L' (k + 47) = L (k + 47) ++ [x]) (h2 : L' (k + 53) = L (k + 53) ++ [v]) (he : EB v) : EXB k L L' := by
  exact exb_snoc0 h h1 h2 he
theorem ng_gr (hn : nodL k L) (N : NG k L L' op c o e) {P P' md md' : Nat} (hP : P + 4 ≤ P') (b19 : (L' (k + 19)).length + P ≤ (L (k + 19)).length + P') (bmd : md' + P ≤ md + P') (hmd : md ≤ md') (b59 : 2 * (L' (k + 59)).length + P ≤ 2 * (L (k + 59)).length + P') (he : EB e) : PGr k L L' P P' md md' := by
  have hg := ng_g hn N
  obtain ⟨n1, n2, n3, n4, n5, n6, n7, n8⟩ := N
  obtain ⟨a1, a2, a3, a4⟩ := hn
  refine ⟨n1, n2, ⟨fun a w1 w2 => n3 a (Or.inl ⟨w1, w2⟩), exb_snoc a3 n4 n7 he⟩, fun j hj => ⟨by rw [n4, gI_l _ hj], by rw [n5, gI_l _ (by omega)], by rw [n6, gI_l _ (by omega)], by rw [n7, gI_l _ (by omega)]⟩, fun j hj => ⟨by rw [n3 _ (by omega)], by rw [n3 _ (by omega)]⟩, n8, by omega, by rw [n3 _ (by omega)]; exact Nat.le_refl _, hmd, by omega, b19, bmd, by omega, b59, by rw [n3 _ (by omega)]; omega⟩
end
section
variable {k h M n : Nat} {D : List Df} {F : fT} {I B I' B' : iT} {J J' : jT} {L L' : lT} {bs : List Nat} {t' : Tok} {r' : List Tok} {P md md' nest wd b z : Nat} {S S' : List Sl} {a6' a8' a0' : List Int32} {op c o e : Int32}
theorem ps_z (H : PS k h M n D F I B J L P md nest S a6' a8' a0' wd b z) {z' : Nat} (h4 : 4 * (L (k + 47)).length ≤ P + z') : PS k h M n D F I B J L P md nest S a6' a8' a0' wd b z' := by
  obtain ⟨h1, h2, h3, h5, h6, ⟨h7, h8, h9⟩, h10⟩ := H
  exact ⟨h1, h2, h3, h5, h6, ⟨h4, h8, h9⟩, h10⟩
theorem sg_of (hN : nodL k L) (N : NG k L L' op c o e) (hC : CR I' B' J' bs t' r') (H : PS k h M n D F I' B' J' L' t'.2.2 md' nest S' a6' a8' a0' wd b z) (h4 : 4 * (L (k + 47)).length ≤ P) (hP : P + 4 ≤ t'.2.2) (b19 : (L' (k + 19)).length + P ≤ (L (k + 19)).length + t'.2.2) (bmd : md' + P ≤ md + t'.2.2) (hmd : md ≤ md') (b59 : 2 * (L' (k + 59)).length + P ≤ 2 * (L (k + 59)).length + t'.2.2) {u : Nat} (e49 : B' 186 49 = nI u) (hu1 : 1400 * h + md ≤ u) (hu2 : u < 1400 * h + md') (e191 : B' 191 u = -1) (hST : ST k n D L' B' J' (fun v => 1400 * h + md ≤ v ∧ v < 1400 * h + md' ∧ v ≠ u) (fun κ => (L (k + 47)).length ≤ κ ∧ κ < (L' (k + 47)).length) u (L (k + 47)).length (gm S) (gm S')) (hq : cQ k I I') (hr : rP h md nest B J B' J') {a6 a8 a0 : List Int32} (hl : LK nest a6 a8 a0 a6' a8' a0') (he : EB e := by exact Or.inl rfl) : SG k h M n D F I B J L bs P md nest S a6 a8 a0 wd b I' B' J' := by
  have hg := ng_g hN N
  exact ⟨u, L', t', r', md', S', a6', a8', a0', hC, ps_z H (by omega), e49, hu1, hu2, e191, hST, hg.2.2.2.2, ng_gr hN N hP b19 bmd hmd b59 he, hq, hr, hl⟩
theorem PL.mono {k hf c c' : Nat} {I B : iT} {J : jT} {I' B' : iT} {J' : jT} (H : PL k hf c I B J I' B' J') (h : c ≤ c') (h2 : c' ≤ 10000) : PL k hf c' I B J I' B' J' := by
  obtain ⟨f, p, c1, c2, c3, c4, c5⟩ := H
  exact ⟨f, p, c1.mono h h2, c2, c3, c4, c5⟩
/-- what is gone has no T -/
theorem sr_z {k h M : Nat} {L : lT} {I B : iT} {J : jT} {n lv : Nat} {S : List Sl} {a6 a8 a0 : List Int32} (H : SR k h M L I B J n lv S a6 a8 a0) {i : Nat} {s : Sl} (hs : S[i]? = some s) (h0 : s.1 = 0) : SR k h M L I B J n lv (S.set i (0, [], 0, 0, 0)) a6 a8 a0 := by
  obtain ⟨hW, ⟨h1, h2, h3, h4, h5, h6, h7⟩, hS, hD, s0, hs0, hs02⟩ := H
  have hi : i < S.length := (List.getElem?_eq_some_iff.mp hs).1
  have gt : ∀ j s', (S.set i (0, [], 0, 0, 0))[j]? = some s' → (j = i ∧ s' = (0, [], 0, 0, 0)) ∨ (j ≠ i ∧ S[j]? = some s') := by
    intro j s' e
    by_cases q : j = i
    · subst q
      rw [List.getElem?_set_self hi] at e
      exact Or.inl ⟨rfl, (Option.some.inj e).symm⟩
    · rw [List.getElem?_set_ne (fun z => q z.symm)] at e
      exact Or.inr ⟨q, e⟩
  have hi0 : i ≠ 0 := by
    intro q
    subst q
    rw [hs] at hs0
    have := Option.some.inj hs0
    subst this
    omega
  refine ⟨hW, ⟨h1, h2, by rw [List.length_set]; exact h3, by rw [List.length_set]; exact h4, h5, by rw [List.length_set]; exact h6, by rw [List.length_set]; exact h7⟩, fun j s' e => ?_, fun j1 j2 s1 s2 e1 e2 n1 n2 e3 => ?_, s0, ?_, hs02⟩
  · rcases gt j s' e with ⟨q1, q2⟩ | ⟨q1, q2⟩
    · subst q1 q2
      obtain ⟨g1, g2, g3⟩ := hS j s hs
      obtain ⟨x1, x2⟩ := g2
      obtain ⟨y1, y2, y3⟩ := g3
      rw [h0] at x1 x2 y1
      exact ⟨by decide, ⟨x1, x2⟩, y1, fun z => (z rfl).elim, fun z => (by cases z)⟩
    · exact hS j s' q2
  · rcases gt j1 s1 e1 with ⟨q1, q2⟩ | ⟨q1, q2⟩
    · subst q2; exact (n1 rfl).elim
    · rcases gt j2 s2 e2 with ⟨q3, q4⟩ | ⟨q3, q4⟩
      · subst q4; exact (n2 rfl).elim
      · exact hD j1 j2 s1 s2 q2 q4 n1 n2 e3
  · rw [List.getElem?_set_ne hi0]; exact hs0
theorem ps_drop0 {a6 a8 a0 : List Int32} (H : PS k h M n D F I B J L P md nest S a6 a8 a0 wd b z) {i : Nat} {s : Sl} (hs : S[i]? = some s) (hi : 1 ≤ i) : ∃ I', mX5_drop I (nI i) = some I' ∧ PS k h M n D F I' B (a_u2 J 206 (sg n i) 0) L P md nest (S.set i (0, [], 0, 0, 0)) (a6.set (nest * 85 + i) 0) (a8.set (nest * 85 + i) (-1)) a0 wd b z ∧ (∀ q, ¬ (136 ≤ q ∧ q ≤ 139) → I' q = I q) := by
  obtain ⟨I', e1, e2, e3⟩ := ps_drop H hs hi
  have hil : i < S.length := (List.getElem?_eq_some_iff.mp hs).1
  refine ⟨I', e1, ?_, e3⟩
  have hz := sr_z e2.1.2.2.2.2.2.1 (i := i) (s := (0, s.2)) (List.getElem?_set_self hil) rfl
  rw [List.set_set] at hz
  exact ps_sr e2 hz (fun _ _ => rfl) (fun _ _ _ _ => rfl) (fun _ _ _ => rfl) (by rw [List.length_set]; exact H.2.2.2.2.1.2.2.2) H.2.2.2.2.2.2.1
theorem gm_set (S : List Sl) (i : Nat) (s : Sl) : gm (S.set i s) = (gm S).set i (s.1, s.2.2.2.1) := by
  unfold gm
  rw [List.map_set]
theorem gm_get {S : List Sl} {i : Nat} {s : Sl} (h : S[i]? = some s) : (gm S)[i]? = some (s.1, s.2.2.2.1) := by
  unfold gm
  rw [List.getElem?_map, h]; rfl
theorem gm_app (S : List Sl) (s : Sl) : gm (S ++ [s]) = gm S ++ [(s.1, s.2.2.2.1)] := by
  unfold gm
  simp
end
