/-! A STATEMENT THAT GOES ON: its fields, without what comes next (pure) -/
def ST (k n : Nat) (D : List Df) (L : lT) (B : iT) (J : jT) (Q Rn : Nat → Prop) (u κ : Nat) (Γ Γ' : Gm) : Prop :=
  u < 2800 ∧ κ < (L (k + 47)).length ∧ Rn κ ∧
  ((∃ i t, B 188 u = 41 ∧ gI (L (k + 47)) κ = 316 ∧ B 189 u = nI (sg n i) ∧ gI (L (k + 49)) κ = nI i ∧ 1 ≤ i ∧ Γ[i]? = some (2, t) ∧ gI (L (k + 2)) t = 302 ∧ Γ' = Γ.set i (0, 0)) ∨
   (∃ i t t' e root f d, B 188 u = 42 ∧ gI (L (k + 47)) κ = 303 ∧ B 189 u = nI (sg n i) ∧ gI (L (k + 49)) κ = nI i ∧ Γ[i]? = some (2, t) ∧ gI (L (k + 2)) t = (if i = 0 then 33 else 63) ∧ (gI (L (k + 6)) t = nI t' ∧ t' < 1000) ∧ B 190 u = nI e ∧ gI (L (k + 51)) κ = nI root ∧ ER k n (nsG Γ) L B Q d e root f 28 ∧ Γ' = Γ.set i (2, t')) ∨
   (∃ i t t', B 188 u = 43 ∧ gI (L (k + 47)) κ = 304 ∧ B 189 u = nI (sg n i) ∧ gI (L (k + 49)) κ = nI i ∧ Γ[i]? = some (2, t) ∧ gI (L (k + 2)) t = (if i = 0 then 63 else 33) ∧ (gI (L (k + 6)) t = nI t' ∧ t' < 1000) ∧ (B 190 u = nI Γ.length ∧ Γ.length < 85) ∧ gI (L (k + 51)) κ = nI Γ.length ∧ Γ' = Γ.set i (2, t') ++ [(1, 0)]) ∨
   (∃ i j t t1 t2, B 188 u = 44 ∧ gI (L (k + 47)) κ = 305 ∧ B 189 u = nI (sg n i) ∧ gI (L (k + 49)) κ = nI i ∧ Γ[i]? = some (2, t) ∧ gI (L (k + 2)) t = (if i = 0 then 62 else 60) ∧ gI (L (k + 4)) t = nI t1 ∧ (gI (L (k + 6)) t = nI t2 ∧ t2 < 1000) ∧ 1 ≤ j ∧ j ≠ i ∧ Γ[j]? = some (2, t1) ∧ B 190 u = nI (sg n j) ∧ gI (L (k + 51)) κ = nI j ∧ Γ' = (Γ.set j (0, 0)).set i (2, t2)) ∨
   (∃ i t t1 t2, B 188 u = 45 ∧ gI (L (k + 47)) κ = 306 ∧ B 189 u = nI (sg n i) ∧ gI (L (k + 49)) κ = nI i ∧ Γ[i]? = some (2, t) ∧ gI (L (k + 2)) t = (if i = 0 then 60 else 62) ∧ gI (L (k + 4)) t = nI t1 ∧ (gI (L (k + 6)) t = nI t2 ∧ t1 < 1000 ∧ t2 < 1000) ∧ (B 190 u = nI Γ.length ∧ Γ.length < 85) ∧ gI (L (k + 51)) κ = nI Γ.length ∧ Γ' = Γ.set i (2, t2) ++ [(2, t1)]) ∨
   (∃ i t f m j w t', B 188 u = 46 ∧ gI (L (k + 47)) κ = 307 ∧ B 189 u = nI (sg n i) ∧ gI (L (k + 49)) κ = nI i ∧ Γ[i]? = some (2, t) ∧ gI (L (k + 2)) t = (if i = 0 then 43 else 38) ∧ gI (L (k + 4)) t = nI f ∧ gI (L (k + 6)) t = nI m ∧ (j < m ∧ m ≤ 6 ∧ t' < 1000) ∧ gI (L (k + 10)) (f + j) = nI (cN w) ∧ gI (L (k + 12)) (f + j) = nI t' ∧ isN w ∧ J 192 u = lN (rN w) ∧ gI (L (k + 51)) κ = nI (cN w) ∧ Γ' = Γ.set i (2, t')) ∨
   (∃ fd df a Γ1, B 188 u = 48 ∧ gI (L (k + 47)) κ = 309 ∧ D[fd]? = some df ∧ J 192 u = lN fd ∧ gI (L (k + 51)) κ = nI fd ∧ gI (L (k + 53)) κ = nI a ∧ argR k n L B Q df.2.1 Γ (B 190 u) a Γ1 ∧ (B 189 u = nI Γ.length ∧ Γ.length < 85) ∧ gI (L (k + 49)) κ = nI Γ.length ∧ Γ' = Γ1 ++ [(2, df.2.2)]) ∨
   (∃ e root f d, B 188 u = 51 ∧ gI (L (k + 47)) κ = 314 ∧ B 189 u = nI e ∧ gI (L (k + 51)) κ = nI root ∧ ER k n (nsG Γ) L B Q d e root f 28 ∧ Γ' = Γ))
section
variable {k n : Nat} {D : List Df} {L L' : lT} {B B' : iT} {J J' : jT} {Q Q' Rn Rn' Rc : Nat → Prop}
theorem pk_rfl (hT : tabL k L) (hS : sumL k L) : PK k L L B B J J Q Rn Rc := ⟨hT, TE.rfl, hS, SE.rfl, ⟨[], (List.append_nil _).symm⟩, Nat.le_refl _, Nat.le_refl _, fun _ _ => ⟨rfl, rfl, rfl, rfl, rfl⟩, fun _ _ => ⟨rfl, rfl, rfl, rfl⟩, fun _ _ => ⟨rfl, rfl⟩⟩
/-- the fields stay while the nodes of its Es and ARGS stay, and its own but for what comes next -/
theorem st_to (H : PK k L L' B B' J J' Q Rn Rc) (hQ : ∀ v, Q v → Q' v) (hRn : ∀ v, Rn v → Rn' v) {u κ : Nat} {Γ Γ' : Gm} (hu : B' 188 u = B 188 u ∧ B' 189 u = B 189 u ∧ B' 190 u = B 190 u ∧ J' 192 u = J 192 u) (h : ST k n D L B J Q Rn u κ Γ Γ') : ST k n D L' B' J' Q' Rn' u κ Γ Γ' := by
  have H0 := H
  obtain ⟨h1, h2, h3, h4, h5, h6, h7, h8, h9, h10⟩ := H
  obtain ⟨l4, l6, l8, l12⟩ := tab_len h1
  obtain ⟨g1, g3, g4, h⟩ := h
  obtain ⟨a1, a2, a3, a5⟩ := hu
  obtain ⟨k1, k2, k3, k4⟩ := h9 κ g4
  have ty : ∀ t c, gI (L (k + 2)) t = c → c ≠ -1 → gI (L' (k + 2)) t = c ∧ t < (L (k + 2)).length := by
    intro t c e hc
    have ht : t < (L (k + 2)).length := gI_lt (by rw [e]; exact hc)
    exact ⟨by rw [ext_g h2 (by omega) (by omega) ht]; exact e, ht⟩
  have t4 : ∀ t, t < (L (k + 2)).length → gI (L' (k + 4)) t = gI (L (k + 4)) t := fun t q => ext_g h2 (by omega) (by omega) (by omega)
  have t6 : ∀ t, t < (L (k + 2)).length → gI (L' (k + 6)) t = gI (L (k + 6)) t := fun t q => ext_g h2 (by omega) (by omega) (by omega)
  have er : ∀ {N : Nat → Prop} {d e root f : Nat}, ER k n N L B Q d e root f 28 → ER k n N L' B' Q' d e root f 28 := fun z => er_to h3 h4 (fun v hv => ⟨(h8 v hv).1, (h8 v hv).2.1, (h8 v hv).2.2.1⟩) hQ _ _ _ _ _ _ _ (Nat.le_refl _) (Nat.le_refl _) z
  have ifne : ∀ (c : Prop) [Decidable c] (x y : Int32), x ≠ -1 → y ≠ -1 → (if c then x else y) ≠ -1 := by
    intro c _ x y q1 q2
    by_cases z : c
    · rw [if_pos z]; exact q1
    · rw [if_neg z]; exact q2
  refine ⟨g1, by omega, hRn κ g4, ?_⟩
  rw [a1, a2, a3, a5, k1, k2, k3, k4]
  rcases h with ⟨i, t, c1, c2, c3, c4, c5, c6, c7, c8⟩ | ⟨i, t, t', e, root, f, d, c1, c2, c3, c4, c5, c6, c7, c8, c9, c10, c11⟩ | ⟨i, t, t', c1, c2, c3, c4, c5, c6, c7, c8⟩ | ⟨i, j, t, t1, t2, c1, c2, c3, c4, c5, c6, c7, c8, c9⟩ | ⟨i, t, t1, t2, c1, c2, c3, c4, c5, c6, c7, c8, c9⟩ | ⟨i, t, f, m, j, w, t', c1, c2, c3, c4, c5, c6, c7, c8, c9, c10, c11, c12, c13⟩ | ⟨fd, df, a, Γ1, c1, c2, c3, c4, c5, c6, c7, c8⟩ | ⟨e, root, f, d, c1, c2, c3, c4, c5, c6⟩
  · exact Or.inl ⟨i, t, c1, c2, c3, c4, c5, c6, (ty t _ c7 (by decide)).1, c8⟩
  · obtain ⟨z1, z2⟩ := ty t _ c6 (ifne _ _ _ (by decide) (by decide))
    exact Or.inr (Or.inl ⟨i, t, t', e, root, f, d, c1, c2, c3, c4, c5, z1, by rw [t6 t z2]; exact c7, c8, c9, er c10, c11⟩)
  · obtain ⟨z1, z2⟩ := ty t _ c6 (ifne _ _ _ (by decide) (by decide))
    exact Or.inr (Or.inr (Or.inl ⟨i, t, t', c1, c2, c3, c4, c5, z1, by rw [t6 t z2]; exact c7, c8⟩))
  · obtain ⟨z1, z2⟩ := ty t _ c6 (ifne _ _ _ (by decide) (by decide))
    exact Or.inr (Or.inr (Or.inr (Or.inl ⟨i, j, t, t1, t2, c1, c2, c3, c4, c5, z1, by rw [t4 t z2]; exact c7, by rw [t6 t z2]; exact c8, c9⟩)))
  · obtain ⟨z1, z2⟩ := ty t _ c6 (ifne _ _ _ (by decide) (by decide))
    exact Or.inr (Or.inr (Or.inr (Or.inr (Or.inl ⟨i, t, t1, t2, c1, c2, c3, c4, c5, z1, by rw [t4 t z2]; exact c7, by rw [t6 t z2]; exact c8, c9⟩))))
  · obtain ⟨z1, z2⟩ := ty t _ c6 (ifne _ _ _ (by decide) (by decide))
    have hj : f + j < (L (k + 10)).length := gI_lt (by rw [c10]; exact nIm (by have := cN_lt c12.1; omega))
    exact Or.inr (Or.inr (Or.inr (Or.inr (Or.inr (Or.inl ⟨i, t, f, m, j, w, t', c1, c2, c3, c4, c5, z1, by rw [t4 t z2]; exact c7, by rw [t6 t z2]; exact c8, c9, by rw [ext_g h2 (by omega) (by omega) hj]; exact c10, by rw [ext_g h2 (by omega) (by omega) (by omega)]; exact c11, c12, c13⟩)))))
  · exact Or.inr (Or.inr (Or.inr (Or.inr (Or.inr (Or.inr (Or.inl ⟨fd, df, a, Γ1, c1, c2, c3, c4, c5, c6, arg_to H0 hQ _ _ _ _ _ c7, c8⟩))))))
  · exact Or.inr (Or.inr (Or.inr (Or.inr (Or.inr (Or.inr (Or.inr ⟨e, root, f, d, c1, c2, c3, c4, er c5, c6⟩))))))
end
/-- with what comes next it is a node of a P -/
theorem st_ph {k n : Nat} {D : List Df} {L : lT} {B : iT} {J : jT} {Q Rn Rc : Nat → Prop} {X : Nat → Nat → Nat → Gm → Prop} {u κ u' l' : Nat} {Γ Γ' : Gm} (h : ST k n D L B J Q Rn u κ Γ Γ') (hu : Q u) (hn : B 191 u = nI u') (hX : X u' (κ + 1) l' Γ') : PH k n D L B J Q Rn Rc X u κ (l' + 1) Γ := by
  obtain ⟨g1, g3, g4, h⟩ := h
  refine ⟨g1, hu, g3, g4, ?_⟩
  rcases h with ⟨i, t, c1, c2, c3, c4, c5, c6, c7, rfl⟩ | ⟨i, t, t', e, root, f, d, c1, c2, c3, c4, c5, c6, c7, c8, c9, c10, rfl⟩ | ⟨i, t, t', c1, c2, c3, c4, c5, c6, c7, c8, c9, rfl⟩ | ⟨i, j, t, t1, t2, c1, c2, c3, c4, c5, c6, c7, c8, c9, c10, c11, c12, c13, rfl⟩ | ⟨i, t, t1, t2, c1, c2, c3, c4, c5, c6, c7, c8, c9, c10, rfl⟩ | ⟨i, t, f, m, j, w, t', c1, c2, c3, c4, c5, c6, c7, c8, c9, c10, c11, c12, c13, c14, rfl⟩ | ⟨fd, df, a, Γ1, c1, c2, c3, c4, c5, c6, c7, c8, c9, rfl⟩ | ⟨e, root, f, d, c1, c2, c3, c4, c5, rfl⟩
  · exact Or.inr (Or.inl ⟨i, t, u', l', c1, c2, c3, c4, c5, c6, c7, hn, rfl, hX⟩)
  · exact Or.inr (Or.inr (Or.inl ⟨i, t, t', e, root, f, d, u', l', c1, c2, c3, c4, c5, c6, c7, c8, c9, c10, hn, rfl, hX⟩))
  · exact Or.inr (Or.inr (Or.inr (Or.inl ⟨i, t, t', u', l', c1, c2, c3, c4, c5, c6, c7, c8, c9, hn, rfl, hX⟩)))
  · exact Or.inr (Or.inr (Or.inr (Or.inr (Or.inl ⟨i, j, t, t1, t2, u', l', c1, c2, c3, c4, c5, c6, c7, c8, c9, c10, c11, c12, c13, hn, rfl, hX⟩))))
  · exact Or.inr (Or.inr (Or.inr (Or.inr (Or.inr (Or.inl ⟨i, t, t1, t2, u', l', c1, c2, c3, c4, c5, c6, c7, c8, c9, c10, hn, rfl, hX⟩)))))
  · exact Or.inr (Or.inr (Or.inr (Or.inr (Or.inr (Or.inr (Or.inl ⟨i, t, f, m, j, w, t', u', l', c1, c2, c3, c4, c5, c6, c7, c8, c9, c10, c11, c12, c13, c14, hn, rfl, hX⟩))))))
  · exact Or.inr (Or.inr (Or.inr (Or.inr (Or.inr (Or.inr (Or.inr (Or.inr (Or.inl ⟨fd, df, a, Γ1, u', l', c1, c2, c3, c4, c5, c6, c7, c8, c9, hn, rfl, hX⟩))))))))
  · exact Or.inr (Or.inr (Or.inr (Or.inr (Or.inr (Or.inr (Or.inr (Or.inr (Or.inr (Or.inr (Or.inr (Or.inl ⟨e, root, f, d, u', l', c1, c2, c3, c4, c5, hn, rfl, hX⟩)))))))))))
