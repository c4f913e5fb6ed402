/-! WHAT IS THERE CHANGES, in both (pure) -/
theorem gI_se {l : List Int32} {j : Nat} (h : j < l.length) (v : Int32) : gI (l.set j v) j = v := by
  unfold gI
  rw [List.getD_eq_getElem?_getD, List.getElem?_set_self h]; rfl
theorem gI_sn {l : List Int32} {i j : Nat} (h : i ≠ j) (v : Int32) : gI (l.set j v) i = gI l i := by
  unfold gI
  rw [List.getD_eq_getElem?_getD, List.getD_eq_getElem?_getD, List.getElem?_set_ne (fun q => h q.symm)]
theorem c5_index {I : iT} {lv i : Nat} (hl : I 135 3 = nI lv) (hi : i < 85) : mX5_index I (nI i) = some (nI (lv * 85 + i)) := by
  unfold mX5_index
  rw [if_neg (nI_not0 (by omega)), if_neg (show ¬ (85 : Int32) ≤ nI i from nI_ge (b := 85) (by omega) (by omega)), hl, i85]
section
variable {I : iT} {a6 a8 a0 : List Int32} {lv i : Nat}
theorem sw_set (hW : SW I a6 a8 a0) (hl : I 135 3 = nI lv) (hlv : lv ≤ 8) (hi : i < 85) (x y : Int32) : ∃ I', mX5_set I (nI i) x y = some I' ∧ SW I' (a6.set (lv * 85 + i) x) (a8.set (lv * 85 + i) y) a0 ∧ (∀ b, ¬ (136 ≤ b ∧ b ≤ 139) → I' b = I b) := by
  obtain ⟨h6, h8, h0, l6, l8, l0⟩ := hW
  obtain ⟨I1, e1, r1⟩ := row_put h6 (nI (lv * 85 + i)) x
  rw [lput_nI _ (by omega)] at r1
  have h81 : rowIs I1 138 a8 := h8.keep (r1.2 _ (by omega) (by omega)) (r1.2 _ (by omega) (by omega))
  obtain ⟨I2, e2, r2⟩ := row_put h81 (nI (lv * 85 + i)) y
  rw [lput_nI _ (by omega)] at r2
  have hl1 : I1 135 3 = nI lv := by rw [r1.2 135 (by omega) (by omega)]; exact hl
  refine ⟨I2, ?_, ⟨r1.1.keep (r2.2 _ (by omega) (by omega)) (r2.2 _ (by omega) (by omega)), r2.1, h0.keep ?_ ?_, by rw [List.length_set]; exact l6, by rw [List.length_set]; exact l8, l0⟩, fun b q => ?_⟩
  · unfold mX5_set
    rw [c5_index hl hi, sb, e1, sb, c5_index hl1 hi, sb, e2, sb]
  · rw [r2.2 _ (by omega) (by omega), r1.2 _ (by omega) (by omega)]
  · rw [r2.2 _ (by omega) (by omega), r1.2 _ (by omega) (by omega)]
  · rw [r2.2 _ (by omega) (by omega), r1.2 _ (by omega) (by omega)]
theorem sw_setTalk (hW : SW I a6 a8 a0) (hl : I 135 3 = nI lv) (hlv : lv ≤ 8) (hi : i < 85) (y : Int32) : ∃ I', mX5_setTalk I (nI i) y = some I' ∧ SW I' a6 (a8.set (lv * 85 + i) y) a0 ∧ (∀ b, ¬ (136 ≤ b ∧ b ≤ 139) → I' b = I b) := by
  obtain ⟨h6, h8, h0, l6, l8, l0⟩ := hW
  obtain ⟨I2, e2, r2⟩ := row_put h8 (nI (lv * 85 + i)) y
  rw [lput_nI _ (by omega)] at r2
  refine ⟨I2, ?_, ⟨h6.keep (r2.2 _ (by omega) (by omega)) (r2.2 _ (by omega) (by omega)), r2.1, h0.keep (r2.2 _ (by omega) (by omega)) (r2.2 _ (by omega) (by omega)), l6, by rw [List.length_set]; exact l8, l0⟩, fun b q => r2.2 _ (by omega) (by omega)⟩
  unfold mX5_setTalk
  rw [c5_index hl hi, sb, e2, sb]
theorem sw_drop (hW : SW I a6 a8 a0) (hl : I 135 3 = nI lv) (hlv : lv ≤ 8) (hi : i < 85) : ∃ I', mX5_drop I (nI i) = some I' ∧ SW I' (a6.set (lv * 85 + i) 0) (a8.set (lv * 85 + i) (-1)) a0 ∧ (∀ b, ¬ (136 ≤ b ∧ b ≤ 139) → I' b = I b) := by
  obtain ⟨I', e1, e2, e3⟩ := sw_set hW hl hlv hi 0 (-1)
  exact ⟨I', e1, e2, e3⟩
theorem sw_add (hW : SW I a6 a8 a0) (hl : I 135 3 = nI lv) (hlv : lv ≤ 8) {m : Nat} (hm : gI a0 lv = nI m) (hm5 : m < 85) (x y : Int32) : ∃ I', mX5_add I x y = some (nI m, I') ∧ SW I' (a6.set (lv * 85 + m) x) (a8.set (lv * 85 + m) y) (a0.set lv (nI (m + 1))) ∧ (∀ b, ¬ (136 ≤ b ∧ b ≤ 141) → I' b = I b) := by
  obtain ⟨I1, e1, w1, f1⟩ := sw_set hW hl hlv hm5 x y
  have hl1 : I1 135 3 = nI lv := by rw [f1 135 (by omega)]; exact hl
  obtain ⟨h6, h8, h0, l6, l8, l0⟩ := w1
  obtain ⟨I2, e2, r2⟩ := row_bump h0 (nI lv) 1
  have eb : lbump a0 (nI lv) 1 = a0.set lv (nI (m + 1)) := by
    unfold lbump
    rw [if_neg (nI_not0 (by omega)), nI_clamp (by omega), ← nI_1, ← hm]; rfl
  rw [eb] at r2
  refine ⟨I2, ?_, ⟨h6.keep (r2.2 _ (by omega) (by omega)) (r2.2 _ (by omega) (by omega)), h8.keep (r2.2 _ (by omega) (by omega)) (r2.2 _ (by omega) (by omega)), r2.1, l6, l8, by rw [List.length_set]; exact l0⟩, fun b q => by rw [r2.2 b (by omega) (by omega), f1 b (by omega)]⟩
  unfold mX5_add
  rw [hl, row_g hW.2.2.1 (by omega), sb, hm, e1, sb, hl1, e2, sb]
end
theorem tr_same {k : Nat} {L : lT} {B B' : iT} {J J' : jT} {Q : Nat → Prop} (hA : ∀ v, (B' 188 v = B 188 v ∧ B' 189 v = B 189 v ∧ B' 190 v = B 190 v ∧ B' 191 v = B 191 v ∧ J' 192 v = J 192 v)) : ∀ {d u t p : Nat}, TR k L B J Q d u t p → TR k L B' J' Q d u t p := by
  intro d
  induction d with
  | zero => intro u t p h; exact h.elim
  | succ d ih =>
    intro u t p h
    obtain ⟨h1, h2, h3, h4, h5⟩ := h
    obtain ⟨a1, a2, a3, a4, a5⟩ := hA u
    refine ⟨h1, h2, h3, by rw [a5]; exact h4, ?_⟩
    rw [a1, a2, a3]
    rcases h5 with h | ⟨kd, w, u1, t1, p1, c1, c2, c3, c4, c5, c6, c7, c8, c9⟩ | ⟨kd, w, u1, t1, p1, u2, t2, p2, c1, c2, c3, c4, c5, c6, c7, c8, c9, c10⟩ | ⟨kd, w, f, bl, c1, c2, c3, c4, c5, c6, c7, c8, c9, c10, c11, c12, c13⟩
    · exact Or.inl h
    · exact Or.inr (Or.inl ⟨kd, w, u1, t1, p1, c1, c2, c3, c4, c5, c6, c7, c8, ih c9⟩)
    · exact Or.inr (Or.inr (Or.inl ⟨kd, w, u1, t1, p1, u2, t2, p2, c1, c2, c3, c4, c5, c6, c7, c8, ih c9, ih c10⟩))
    · exact Or.inr (Or.inr (Or.inr ⟨kd, w, f, bl, c1, c2, c3, c4, c5, c6, c7, c8, c9, chain_to _ _ (fun e _ => hA e.1) c10, c11, c12, fun i e he => ⟨(c13 i e he).1, (c13 i e he).2.1, (c13 i e he).2.2.1, (c13 i e he).2.2.2.1, ih (c13 i e he).2.2.2.2⟩⟩))
section
variable {k h M : Nat} {L : lT} {I B : iT} {J : jT} {n lv : Nat} {S : List Sl} {a6 a8 a0 : List Int32}
/-- the T of a place changes -/
theorem sr_set (H : SR k h M L I B J n lv S a6 a8 a0) {i : Nat} {s : Sl} (hs : S[i]? = some s) (h2 : s.1 = 2) {u t p : Nat} (hp : p ≤ 200) (hTR : TR k L B J (fun v => 1400 * h ≤ v ∧ v < M) p u t p) : ∃ I', mX5_setTalk I (nI i) (nI t) = some I' ∧ SR k h M L I' (a_u2 B 209 (sg n i) (nI u)) J n lv (S.set i (2, s.2.1, u, t, p)) a6 (a8.set (lv * 85 + i) (nI t)) a0 ∧ (∀ b, ¬ (136 ≤ b ∧ b ≤ 139) → I' b = I b) := by
  obtain ⟨hW, ⟨g1, g2, g3, g4, g5, g6, g7⟩, hS, hD, s0, hs0, hs02⟩ := H
  have hi : i < S.length := (List.getElem?_eq_some_iff.mp hs).1
  obtain ⟨I', e1, e2, e3⟩ := sw_setTalk hW g1 g2 (i := i) (by omega) (nI t)
  have fB : ∀ b j, ¬ (b = 209 ∧ j = sg n i) → (a_u2 B 209 (sg n i) (nI u)) b j = B b j := fun b j q => a_u2_n _ _ q
  have trB : ∀ {u' t' p' : Nat}, TR k L B J (fun v => 1400 * h ≤ v ∧ v < M) p' u' t' p' → TR k L (a_u2 B 209 (sg n i) (nI u)) J (fun v => 1400 * h ≤ v ∧ v < M) p' u' t' p' := fun z => tr_same (fun v => ⟨fB _ _ (by omega), fB _ _ (by omega), fB _ _ (by omega), fB _ _ (by omega), rfl⟩) z
  refine ⟨I', e1, ⟨e2, ⟨by rw [e3 135 (by omega)]; exact g1, g2, by rw [List.length_set]; exact g3, by rw [List.length_set]; exact g4, g5, by rw [List.length_set]; exact g6, by rw [fB _ _ (by omega), List.length_set]; exact g7⟩, fun j s' hj => ?_, fun j1 j2 s1 s2 hj1 hj2 n1 n2 nn => ?_, ?_⟩, e3⟩
  · by_cases e : i = j
    · subst e
      rw [List.getElem?_set_self hi] at hj
      cases hj
      obtain ⟨c1, c2, c3, c4, c5⟩ := hS i s hs
      refine ⟨by show (2 : Nat) ≤ 2; omega, ⟨?_, ?_⟩, ?_, fun _ => ⟨(c4 (by omega)).1, ?_⟩, fun _ => ⟨a_u2_s _ _ _ _, hp, trB hTR⟩⟩
      · have := c2.1
        rw [if_neg (by omega)] at this
        show gI a6 (lv * 85 + i) = if (2 : Nat) = 0 then 0 else nI (cN s.2.1)
        rw [if_neg (by omega)]; exact this
      · show gI (a8.set (lv * 85 + i) (nI t)) (lv * 85 + i) = if (2 : Nat) = 2 then nI t else -1
        rw [if_pos rfl]
        exact gI_se (by rw [hW.2.2.2.2.1]; omega) _
      · rw [if_neg (by omega)] at c3
        show J 206 (sg n i) = if (2 : Nat) = 0 then 0 else lN (rN s.2.1)
        rw [if_neg (by omega)]; exact c3
      · have := (c4 (by omega)).2
        rw [if_neg (by omega)] at this
        show (a_u2 B 209 (sg n i) (nI u)) 208 (sg n i) = if (2 : Nat) = 1 then 0 else if i = 0 then 1 else 2
        rw [fB _ _ (by omega), if_neg (by omega)]; exact this
    · rw [List.getElem?_set_ne e] at hj
      obtain ⟨c1, c2, c3, c4, c5⟩ := hS j s' hj
      have hj' : j < S.length := (List.getElem?_eq_some_iff.mp hj).1
      have hne : sg n j ≠ sg n i := fun z => e (sg_inj z).symm
      refine ⟨c1, ⟨c2.1, by rw [gI_sn (by omega)]; exact c2.2⟩, c3, fun q => ⟨(c4 q).1, by rw [fB _ _ (by omega)]; exact (c4 q).2⟩, fun q => ⟨by rw [fB _ _ (by omega)]; exact (c5 q).1, (c5 q).2.1, trB (c5 q).2.2⟩⟩
  · have back : ∀ (j : Nat) (s' : Sl), (S.set i (2, s.2.1, u, t, p))[j]? = some s' → s'.1 ≠ 0 → ∃ s'', S[j]? = some s'' ∧ s''.1 ≠ 0 ∧ s''.2.1 = s'.2.1 := by
      intro j s' hj q
      by_cases e : i = j
      · subst e
        rw [List.getElem?_set_self hi] at hj
        cases hj
        exact ⟨s, hs, by omega, rfl⟩
      · rw [List.getElem?_set_ne e] at hj
        exact ⟨s', hj, q, rfl⟩
    obtain ⟨x1, y1, y2, y3⟩ := back j1 s1 hj1 n1
    obtain ⟨x2, z1, z2, z3⟩ := back j2 s2 hj2 n2
    exact hD j1 j2 x1 x2 y1 z1 y2 z2 (by rw [y3, z3, nn])
  · by_cases e : i = 0
    · subst e
      exact ⟨_, List.getElem?_set_self hi, rfl⟩
    · exact ⟨s0, by rw [List.getElem?_set_ne e]; exact hs0, hs02⟩
/-- a place becomes empty -/
theorem sr_drop (H : SR k h M L I B J n lv S a6 a8 a0) {i : Nat} {s : Sl} (hs : S[i]? = some s) (hi1 : 1 ≤ i) : ∃ I', mX5_drop I (nI i) = some I' ∧ SR k h M L I' B (a_u2 J 206 (sg n i) 0) n lv (S.set i (0, s.2)) (a6.set (lv * 85 + i) 0) (a8.set (lv * 85 + i) (-1)) a0 ∧ (∀ b, ¬ (136 ≤ b ∧ b ≤ 139) → I' b = I b) := by
  obtain ⟨hW, ⟨g1, g2, g3, g4, g5, g6, g7⟩, hS, hD, s0, hs0, hs02⟩ := H
  have hi : i < S.length := (List.getElem?_eq_some_iff.mp hs).1
  obtain ⟨I', e1, e2, e3⟩ := sw_drop hW g1 g2 (i := i) (by omega)
  have trJ : ∀ {u' t' p' : Nat}, TR k L B J (fun v => 1400 * h ≤ v ∧ v < M) p' u' t' p' → TR k L B (a_u2 J 206 (sg n i) 0) (fun v => 1400 * h ≤ v ∧ v < M) p' u' t' p' := fun z => tr_same (fun v => ⟨rfl, rfl, rfl, rfl, a_u2_n _ _ (by omega)⟩) z
  refine ⟨I', e1, ⟨e2, ⟨by rw [e3 135 (by omega)]; exact g1, g2, by rw [List.length_set]; exact g3, by rw [List.length_set]; exact g4, g5, by rw [List.length_set]; exact g6, by rw [List.length_set]; exact g7⟩, fun j s' hj => ?_, fun j1 j2 s1 s2 hj1 hj2 n1 n2 nn => ?_, ⟨s0, by rw [List.getElem?_set_ne (by omega)]; exact hs0, hs02⟩⟩, e3⟩
  · by_cases e : i = j
    · subst e
      rw [List.getElem?_set_self hi] at hj
      cases hj
      refine ⟨by show (0 : Nat) ≤ 2; omega, ⟨?_, ?_⟩, ?_, fun q => absurd rfl q, fun q => absurd q (by show ¬ (0 : Nat) = 2; omega)⟩
      · show gI (a6.set (lv * 85 + i) 0) (lv * 85 + i) = if (0 : Nat) = 0 then 0 else nI (cN s.2.1)
        rw [if_pos rfl]
        exact gI_se (by rw [hW.2.2.2.1]; omega) _
      · show gI (a8.set (lv * 85 + i) (-1)) (lv * 85 + i) = if (0 : Nat) = 2 then _ else -1
        rw [if_neg (by omega)]
        exact gI_se (by rw [hW.2.2.2.2.1]; omega) _
      · show (a_u2 J 206 (sg n i) 0) 206 (sg n i) = if (0 : Nat) = 0 then 0 else _
        rw [if_pos rfl, a_u2_s]
    · rw [List.getElem?_set_ne e] at hj
      obtain ⟨c1, c2, c3, c4, c5⟩ := hS j s' hj
      have hne : sg n j ≠ sg n i := fun z => e (sg_inj z).symm
      exact ⟨c1, ⟨by rw [gI_sn (by omega)]; exact c2.1, by rw [gI_sn (by omega)]; exact c2.2⟩, by rw [a_u2_n _ _ (by omega)]; exact c3, c4, fun q => ⟨(c5 q).1, (c5 q).2.1, trJ (c5 q).2.2⟩⟩
  · have back : ∀ (j : Nat) (s' : Sl), (S.set i (0, s.2))[j]? = some s' → s'.1 ≠ 0 → S[j]? = some s' := by
      intro j s' hj q
      by_cases e : i = j
      · subst e
        rw [List.getElem?_set_self hi] at hj
        cases hj
        exact absurd rfl q
      · rw [List.getElem?_set_ne e] at hj
        exact hj
    exact hD j1 j2 s1 s2 (back j1 s1 hj1 n1) (back j2 s2 hj2 n2) n1 n2 nn
end
