/-! A FINISHED P STAYS (pure) -/
theorem gI_lt {l : List Int32} {i : Nat} (h : gI l i ≠ -1) : i < l.length := by
  rcases Nat.lt_or_ge i l.length with q | q
  · exact q
  · exfalso
    apply h
    unfold gI
    rw [List.getD_eq_getElem?_getD, List.getElem?_eq_none q]; rfl
section
variable {k n : Nat} {D : List Df} {L L' : lT} {B B' : iT} {J J' : jT} {Q Q' Rn Rn' Rc Rc' : Nat → Prop}
theorem ph_to (H : PK k L L' B B' J J' Q Rn Rc) (hQ : ∀ v, Q v → Q' v) (hRn : ∀ v, Rn v → Rn' v) (hRc : ∀ v, Rc v → Rc' v) {X X' : Nat → Nat → Nat → Gm → Prop} (hX : ∀ u κ l Γ, X u κ l Γ → X' u κ l Γ) {u κ l : Nat} {Γ : Gm} (h : PH k n D L B J Q Rn Rc X u κ l Γ) : PH k n D L' B' J' Q' Rn' Rc' X' u κ l Γ := by
  have H0 := H
  obtain ⟨h1, h2, h3, h4, h5, h6, h7, h8, h9, h10⟩ := H
  obtain ⟨l4, l6, l8, l12⟩ := tab_len h1
  obtain ⟨g1, g2, g3, g4, h⟩ := h
  obtain ⟨a1, a2, a3, a4, a5⟩ := h8 u g2
  obtain ⟨k1, k2, k3, k4⟩ := h9 κ g4
  -- what the table of Ts says stays
  have ty : ∀ t c, gI (L (k + 2)) t = c → c ≠ -1 → gI (L' (k + 2)) t = c ∧ t < (L (k + 2)).length := by
    intro t c e hc
    have ht : t < (L (k + 2)).length := gI_lt (by rw [e]; exact hc)
    exact ⟨by rw [ext_g h2 (by omega) (by omega) ht]; exact e, ht⟩
  have t4 : ∀ t, t < (L (k + 2)).length → gI (L' (k + 4)) t = gI (L (k + 4)) t := fun t q => ext_g h2 (by omega) (by omega) (by omega)
  have t6 : ∀ t, t < (L (k + 2)).length → gI (L' (k + 6)) t = gI (L (k + 6)) t := fun t q => ext_g h2 (by omega) (by omega) (by omega)
  have cne : ∀ {w : List Nat}, isN w → nI (cN w) ≠ -1 := fun hw => nIm (by have := cN_lt hw.1; omega)
  have tb : ∀ j w t', isN w → gI (L (k + 10)) j = nI (cN w) → gI (L (k + 12)) j = nI t' → gI (L' (k + 10)) j = nI (cN w) ∧ gI (L' (k + 12)) j = nI t' := by
    intro j w t' hw e1 e2
    have hj : j < (L (k + 10)).length := gI_lt (by rw [e1]; exact cne hw)
    exact ⟨by rw [ext_g h2 (by omega) (by omega) hj]; exact e1, by rw [ext_g h2 (by omega) (by omega) (by omega)]; exact e2⟩
  have er : ∀ {N : Nat → Prop} {d e root f : Nat}, ER k n N L B Q d e root f 28 → ER k n N L' B' Q' d e root f 28 := fun z => er_to h3 h4 (fun v hv => ⟨(h8 v hv).1, (h8 v hv).2.1, (h8 v hv).2.2.1⟩) hQ _ _ _ _ _ _ _ (Nat.le_refl _) (Nat.le_refl _) z
  have ifne : ∀ (c : Prop) [Decidable c] (x y : Int32), x ≠ -1 → y ≠ -1 → (if c then x else y) ≠ -1 := by
    intro c _ x y q1 q2
    by_cases z : c
    · rw [if_pos z]; exact q1
    · rw [if_neg z]; exact q2
  refine ⟨g1, hQ u g2, by omega, hRn κ g4, ?_⟩
  rw [a1, a2, a3, a4, a5, k1, k2, k3, k4]
  rcases h with ⟨t, c1, c2, c3, c4, c5, c6, c7, c8⟩ | ⟨i, t, u', l', c1, c2, c3, c4, c5, c6, c7, c8, c9, c10⟩ | ⟨i, t, t', e, root, f, d, u', l', c1, c2, c3, c4, c5, c6, c7, c8, c9, c10, c11, c12, c13⟩ | ⟨i, t, t', u', l', c1, c2, c3, c4, c5, c6, c7, c8, c9, c10, c11, c12⟩ | ⟨i, j, t, t1, t2, u', l', c1, c2, c3, c4, c5, c6, c7, c8, c9, c10, c11, c12, c13, c14, c15, c16⟩ | ⟨i, t, t1, t2, u', l', c1, c2, c3, c4, c5, c6, c7, c8, c9, c10, c11, c12, c13⟩ | ⟨i, t, f, m, j, w, t', u', l', c1, c2, c3, c4, c5, c6, c7, c8, c9, c10, c11, c12, c13, c14, c15, c16, c17⟩ | ⟨i, t, f, m, a, bl, c1, c2, c3, c4, c5, c6, c7, c8, c9, c10, c11, c12, c13, c14, c15, c16, c17, c18⟩ | ⟨fd, df, a, Γ1, u', l', c1, c2, c3, c4, c5, c6, c7, c8, c9, c10, c11, c12⟩ | ⟨fd, df, a, Γ1, c1, c2, c3, c4, c5, c6, c7, c8, c9, c10⟩ | h | ⟨e, root, f, d, u', l', c1, c2, c3, c4, c5, c6, c7, c8⟩ | ⟨e, root, f, d, uy, un, κ2, l1, l2, c1, c2, c3, c4, c5, c6, c7, c8, c9, c10, c11⟩
  · exact Or.inl ⟨t, c1, c2, c3, c4, c5, (ty t _ c6 (by decide)).1, c7, c8⟩
  · exact Or.inr (Or.inl ⟨i, t, u', l', c1, c2, c3, c4, c5, c6, (ty t _ c7 (by decide)).1, c8, c9, hX _ _ _ _ c10⟩)
  · obtain ⟨z1, z2⟩ := ty t _ c6 (ifne _ _ _ (by decide) (by decide))
    exact Or.inr (Or.inr (Or.inl ⟨i, t, t', e, root, f, d, u', l', c1, c2, c3, c4, c5, z1, by rw [t6 t z2]; exact c7, c8, c9, er c10, c11, c12, hX _ _ _ _ c13⟩))
  · obtain ⟨z1, z2⟩ := ty t _ c6 (ifne _ _ _ (by decide) (by decide))
    exact Or.inr (Or.inr (Or.inr (Or.inl ⟨i, t, t', u', l', c1, c2, c3, c4, c5, z1, by rw [t6 t z2]; exact c7, c8, c9, c10, c11, hX _ _ _ _ c12⟩)))
  · obtain ⟨z1, z2⟩ := ty t _ c6 (ifne _ _ _ (by decide) (by decide))
    exact Or.inr (Or.inr (Or.inr (Or.inr (Or.inl ⟨i, j, t, t1, t2, u', l', c1, c2, c3, c4, c5, z1, by rw [t4 t z2]; exact c7, by rw [t6 t z2]; exact c8, c9, c10, c11, c12, c13, c14, c15, hX _ _ _ _ c16⟩))))
  · obtain ⟨z1, z2⟩ := ty t _ c6 (ifne _ _ _ (by decide) (by decide))
    exact Or.inr (Or.inr (Or.inr (Or.inr (Or.inr (Or.inl ⟨i, t, t1, t2, u', l', c1, c2, c3, c4, c5, z1, by rw [t4 t z2]; exact c7, by rw [t6 t z2]; exact c8, c9, c10, c11, c12, hX _ _ _ _ c13⟩)))))
  · obtain ⟨z1, z2⟩ := ty t _ c6 (ifne _ _ _ (by decide) (by decide))
    obtain ⟨y1, y2⟩ := tb _ w t' c12 c10 c11
    exact Or.inr (Or.inr (Or.inr (Or.inr (Or.inr (Or.inr (Or.inl ⟨i, t, f, m, j, w, t', u', l', c1, c2, c3, c4, c5, z1, by rw [t4 t z2]; exact c7, by rw [t6 t z2]; exact c8, c9, y1, y2, c12, c13, c14, c15, c16, hX _ _ _ _ c17⟩))))))
  · obtain ⟨z1, z2⟩ := ty t _ c6 (ifne _ _ _ (by decide) (by decide))
    refine Or.inr (Or.inr (Or.inr (Or.inr (Or.inr (Or.inr (Or.inr (Or.inl ⟨i, t, f, m, a, bl, c1, c2, c3, c4, c5, z1, by rw [t4 t z2]; exact c7, by rw [t6 t z2]; exact c8, c9, c10, c11, c12, by omega, alt_to H0 hQ _ _ c14, c15, c16, c17, fun e he => ?_⟩)))))))
    obtain ⟨x1, x2, x3, x4, x5, x6, x7, x8⟩ := c18 e he
    obtain ⟨y1, y2⟩ := tb _ e.2.2.1 e.2.2.2.1 x2 x4 x5
    obtain ⟨w1, w2⟩ := h10 _ x3
    exact ⟨x1, x2, hRc _ x3, y1, y2, by rw [w1]; exact x6, by rw [w2]; exact x7, hX _ _ _ _ x8⟩
  · exact Or.inr (Or.inr (Or.inr (Or.inr (Or.inr (Or.inr (Or.inr (Or.inr (Or.inl ⟨fd, df, a, Γ1, u', l', c1, c2, c3, c4, c5, c6, arg_to H0 hQ _ _ _ _ _ c7, c8, c9, c10, c11, hX _ _ _ _ c12⟩))))))))
  · exact Or.inr (Or.inr (Or.inr (Or.inr (Or.inr (Or.inr (Or.inr (Or.inr (Or.inr (Or.inl ⟨fd, df, a, Γ1, c1, c2, c3, c4, c5, c6, arg_to H0 hQ _ _ _ _ _ c7, c8, c9, c10⟩)))))))))
  · exact Or.inr (Or.inr (Or.inr (Or.inr (Or.inr (Or.inr (Or.inr (Or.inr (Or.inr (Or.inr (Or.inl h))))))))))
  · exact Or.inr (Or.inr (Or.inr (Or.inr (Or.inr (Or.inr (Or.inr (Or.inr (Or.inr (Or.inr (Or.inr (Or.inl ⟨e, root, f, d, u', l', c1, c2, c3, c4, er c5, c6, c7, hX _ _ _ _ c8⟩)))))))))))
  · exact Or.inr (Or.inr (Or.inr (Or.inr (Or.inr (Or.inr (Or.inr (Or.inr (Or.inr (Or.inr (Or.inr (Or.inr ⟨e, root, f, d, uy, un, κ2, l1, l2, c1, c2, c3, c4, er c5, c6, c7, c8, c9, hX _ _ _ _ c10, hX _ _ _ _ c11⟩)))))))))))
theorem pr_to (H : PK k L L' B B' J J' Q Rn Rc) (hQ : ∀ v, Q v → Q' v) (hRn : ∀ v, Rn v → Rn' v) (hRc : ∀ v, Rc v → Rc' v) : ∀ (m m' : Nat), m ≤ m' → ∀ u κ l Γ, PR k n D L B J Q Rn Rc m u κ l Γ → PR k n D L' B' J' Q' Rn' Rc' m' u κ l Γ := by
  intro m
  induction m with
  | zero => intro m' _ u κ l Γ h; exact h.elim
  | succ m ih =>
    intro m' hm u κ l Γ h
    obtain ⟨m', rfl⟩ : ∃ y, m' = y + 1 := ⟨m' - 1, by omega⟩
    exact ph_to H hQ hRn hRc (ih m' (by omega)) h
end
