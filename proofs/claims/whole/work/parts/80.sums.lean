/-! Es as nodes, in both (pure) -/
def opk (kd w : Nat) : Prop := (kd = 43 ∧ w = 23) ∨ (kd = 45 ∧ w = 24) ∨ (kd = 42 ∧ w = 25) ∨ (kd = 60 ∧ w = 26) ∨ (kd = 258 ∧ w = 27)
/-- the places that hold NUMBERS -/
def nsS (S : List Sl) (i : Nat) : Prop := ∃ s, S[i]? = some s ∧ s.1 = 1
/-- node e of the reference is the class's E with nodes f to r; n PARAMS; its nodes are in Q, its places in N -/
def ER (k n : Nat) (N : Nat → Prop) (L : lT) (B : iT) (Q : Nat → Prop) : Nat → Nat → Nat → Nat → Nat → Prop
  | 0, _, _, _, _ => False
  | d + 1, e, r, f, ρ => e < 2800 ∧ Q e ∧ r < (L (k + 19)).length ∧ f ≤ r ∧ gI (L (k + 25)) r = nI f ∧ 1 ≤ ρ ∧
    ((∃ v, B 188 e = 20 ∧ B 189 e = nI v ∧ gI (L (k + 19)) r = 257 ∧ gI (L (k + 21)) r = nI v ∧ f = r ∧ v < 10000) ∨
     (∃ i, B 188 e = 21 ∧ B 189 e = nI (sg n i) ∧ gI (L (k + 19)) r = 256 ∧ gI (L (k + 21)) r = nI i ∧ f = r ∧ i < 85 ∧ N i) ∨
     (∃ e1 r1 ρ1, B 188 e = 22 ∧ B 189 e = nI e1 ∧ gI (L (k + 19)) r = 261 ∧ gI (L (k + 21)) r = nI r1 ∧ gI (L (k + 23)) r = -1 ∧ r = r1 + 1 ∧ ρ1 + 1 ≤ ρ ∧ ER k n N L B Q d e1 r1 f ρ1) ∨
     (∃ kd w e1 r1 e2 r2 ρ2, opk kd w ∧ B 188 e = nI w ∧ B 189 e = nI e1 ∧ B 190 e = nI e2 ∧ gI (L (k + 19)) r = nI kd ∧ gI (L (k + 21)) r = nI r1 ∧ gI (L (k + 23)) r = nI r2 ∧ r = r2 + 1 ∧ ρ2 + 1 ≤ ρ ∧ ER k n N L B Q d e1 r1 f ρ ∧ ER k n N L B Q d e2 r2 (r1 + 1) ρ2))
theorem er_u {k n : Nat} {N : Nat → Prop} {L : lT} {B : iT} {Q : Nat → Prop} {d e r f ρ : Nat} (h : ER k n N L B Q d e r f ρ) : e < 2800 ∧ Q e ∧ r < (L (k + 19)).length ∧ f ≤ r ∧ gI (L (k + 25)) r = nI f := by
  cases d with
  | zero => exact h.elim
  | succ d => exact ⟨h.1, h.2.1, h.2.2.1, h.2.2.2.1, h.2.2.2.2.1⟩
def SE (k : Nat) (L L' : lT) : Prop := ∀ a, k + 19 ≤ a → a ≤ k + 27 → ∃ r, L' a = L a ++ r
theorem SE.rfl {k : Nat} {L : lT} : SE k L L := fun a _ _ => ⟨[], (List.append_nil _).symm⟩
theorem SE.trans {k : Nat} {L L1 L2 : lT} (h : SE k L L1) (g : SE k L1 L2) : SE k L L2 := by
  intro a h1 h2
  obtain ⟨r, e⟩ := h a h1 h2
  obtain ⟨r', e'⟩ := g a h1 h2
  exact ⟨r ++ r', by rw [e', e, List.append_assoc]⟩
/-- a small number, or none -/
def EB (x : Int32) : Prop := x = -1 ∨ ∃ y, y ≤ 1000 ∧ x = nI y
theorem eb_snoc {l : List Int32} {x : Int32} (h : ∀ i, EB (gI l i)) (hx : EB x) : ∀ i, EB (gI (l ++ [x]) i) := by
  intro i
  rcases Nat.lt_trichotomy i l.length with q | q | q
  · rw [gI_l _ q]
    exact h i
  · subst q
    rw [gI_e]
    exact hx
  · refine Or.inl ?_
    unfold gI
    rw [List.getD_eq_getElem?_getD, List.getElem?_eq_none (by rw [List.length_append, List.length_singleton]; omega)]
    rfl
def sumL (k : Nat) (L : lT) : Prop := (L (k + 21)).length = (L (k + 19)).length ∧ (L (k + 23)).length = (L (k + 19)).length ∧ (L (k + 25)).length = (L (k + 19)).length ∧ (L (k + 27)).length = (L (k + 19)).length ∧ ∀ i, EB (gI (L (k + 25)) i)
theorem se_g {k : Nat} {L L' : lT} (h : SE k L L') {a i : Nat} (h1 : k + 19 ≤ a) (h2 : a ≤ k + 27) (hi : i < (L a).length) : gI (L' a) i = gI (L a) i := by
  obtain ⟨r, e⟩ := h a h1 h2
  rw [e, gI_l _ hi]
theorem se_l {k : Nat} {L L' : lT} (h : SE k L L') {a : Nat} (h1 : k + 19 ≤ a) (h2 : a ≤ k + 27) : (L a).length ≤ (L' a).length := by
  obtain ⟨r, e⟩ := h a h1 h2
  rw [e, List.length_append]; omega
theorem er_to {k n : Nat} {N : Nat → Prop} {L L' : lT} {B B' : iT} {Q Q' : Nat → Prop} (hS : sumL k L) (hE : SE k L L') (hA : ∀ v, Q v → (B' 188 v = B 188 v ∧ B' 189 v = B 189 v ∧ B' 190 v = B 190 v)) (hQ : ∀ v, Q v → Q' v) : ∀ (d m e r f ρ ρ' : Nat), d ≤ m → ρ ≤ ρ' → ER k n N L B Q d e r f ρ → ER k n N L' B' Q' m e r f ρ' := by
  obtain ⟨l1, l2, l3, l4⟩ := hS
  have e19 := se_l hE (a := k + 19) (by omega) (by omega)
  intro d
  induction d with
  | zero => intro m e r f ρ ρ' _ _ h; exact h.elim
  | succ d ih =>
    intro m e r f ρ ρ' hm hρ h
    obtain ⟨m, rfl⟩ : ∃ m', m = m' + 1 := ⟨m - 1, by omega⟩
    obtain ⟨h1, h2, h3, h4, h5, h5b, h6⟩ := h
    obtain ⟨a1, a2, a3⟩ := hA e h2
    have g1 : gI (L' (k + 19)) r = gI (L (k + 19)) r := se_g hE (by omega) (by omega) h3
    have g2 : gI (L' (k + 21)) r = gI (L (k + 21)) r := se_g hE (by omega) (by omega) (by omega)
    have g3 : gI (L' (k + 23)) r = gI (L (k + 23)) r := se_g hE (by omega) (by omega) (by omega)
    have g4 : gI (L' (k + 25)) r = gI (L (k + 25)) r := se_g hE (by omega) (by omega) (by omega)
    refine ⟨h1, hQ e h2, by omega, h4, by rw [g4]; exact h5, by omega, ?_⟩
    rw [g1, g2, g3, a1, a2, a3]
    rcases h6 with h | h | ⟨e1, r1, ρ1, c1, c2, c3, c4, c5, c6, c6b, c7⟩ | ⟨kd, w, e1, r1, e2, r2, ρ2, c1, c2, c3, c4, c5, c6, c7, c8, c8b, c9, c10⟩
    · exact Or.inl h
    · exact Or.inr (Or.inl h)
    · exact Or.inr (Or.inr (Or.inl ⟨e1, r1, ρ1, c1, c2, c3, c4, c5, c6, by omega, ih m _ _ _ _ _ (by omega) (Nat.le_refl _) c7⟩))
    · exact Or.inr (Or.inr (Or.inr ⟨kd, w, e1, r1, e2, r2, ρ2, c1, c2, c3, c4, c5, c6, c7, c8, by omega, ih m _ _ _ _ _ (by omega) hρ c9, ih m _ _ _ _ _ (by omega) (Nat.le_refl _) c10⟩))
theorem lenS {k : Nat} (hk : k = 12 ∨ k = 73) : LEN (k + 19 + 1) = 1000 ∧ LEN (k + 21 + 1) = 1000 ∧ LEN (k + 23 + 1) = 1000 ∧ LEN (k + 25 + 1) = 1000 ∧ LEN (k + 27 + 1) = 1000 := by
  rcases hk with rfl | rfl <;> decide +kernel
def adS (k : Nat) (L : lT) (op l r f : Int32) : lT := upL (upL (upL (upL (upL L (k + 25) (L (k + 25) ++ [f])) (k + 21) (L (k + 21) ++ [l])) (k + 23) (L (k + 23) ++ [r])) (k + 27) (L (k + 27) ++ [0])) (k + 19) (L (k + 19) ++ [op])
section
variable {k : Nat} {L : lT}
theorem adS_19 (op l r f : Int32) : adS k L op l r f (k + 19) = L (k + 19) ++ [op] := upL_s _ _ _
theorem adS_27 (op l r f : Int32) : adS k L op l r f (k + 27) = L (k + 27) ++ [0] := by unfold adS; rw [upL_n _ _ (by omega), upL_s]
theorem adS_23 (op l r f : Int32) : adS k L op l r f (k + 23) = L (k + 23) ++ [r] := by unfold adS; rw [upL_n _ _ (by omega), upL_n _ _ (by omega), upL_s]
theorem adS_21 (op l r f : Int32) : adS k L op l r f (k + 21) = L (k + 21) ++ [l] := by unfold adS; rw [upL_n _ _ (by omega), upL_n _ _ (by omega), upL_n _ _ (by omega), upL_s]
theorem adS_25 (op l r f : Int32) : adS k L op l r f (k + 25) = L (k + 25) ++ [f] := by unfold adS; rw [upL_n _ _ (by omega), upL_n _ _ (by omega), upL_n _ _ (by omega), upL_n _ _ (by omega), upL_s]
theorem adS_n (op l r f : Int32) {a : Nat} (h : a ≠ k + 19 ∧ a ≠ k + 21 ∧ a ≠ k + 23 ∧ a ≠ k + 25 ∧ a ≠ k + 27) : adS k L op l r f a = L a := by unfold adS; rw [upL_n _ _ h.1, upL_n _ _ h.2.2.2.2, upL_n _ _ h.2.2.1, upL_n _ _ h.2.1, upL_n _ _ h.2.2.2.1]
theorem adS_SE (op l r f : Int32) : SE k L (adS k L op l r f) := by
  intro a h1 h2
  by_cases e1 : a = k + 19
  · subst e1; exact ⟨_, adS_19 _ _ _ _⟩
  by_cases e2 : a = k + 21
  · subst e2; exact ⟨_, adS_21 _ _ _ _⟩
  by_cases e3 : a = k + 23
  · subst e3; exact ⟨_, adS_23 _ _ _ _⟩
  by_cases e4 : a = k + 25
  · subst e4; exact ⟨_, adS_25 _ _ _ _⟩
  by_cases e5 : a = k + 27
  · subst e5; exact ⟨_, adS_27 _ _ _ _⟩
  exact ⟨[], by rw [adS_n _ _ _ _ ⟨e1, e2, e3, e4, e5⟩, List.append_nil]⟩
theorem adS_sumL (hS : sumL k L) (op l r f : Int32) (hf : EB f) : sumL k (adS k L op l r f) := by
  obtain ⟨l1, l2, l3, l4, l5⟩ := hS
  unfold sumL
  rw [adS_19, adS_21, adS_23, adS_25, adS_27]
  exact ⟨by simp; omega, by simp; omega, by simp; omega, by simp; omega, eb_snoc l5 hf⟩
/-- a node of an E is added: the five Rows -/
theorem add5 {I : iT} (h : RS I k L) (hS : sumL k L) (hr : (L (k + 19)).length < 1000) (op l r f : Int32) : ∃ I', ((mX4_add (k + 25) I f).bind fun q2 => (mX4_add (k + 21) q2.2 l).bind fun q3 => (mX4_add (k + 23) q3.2 r).bind fun q4 => (mX4_add (k + 27) q4.2 0).bind fun q5 => (mX4_add (k + 19) q5.2 op).bind fun q6 => some (q6.1, q6.2)) = some (nI (L (k + 19)).length, I') ∧ RS I' k (adS k L op l r f) ∧ (∀ b, ¬ (k + 19 ≤ b ∧ b ≤ k + 28) → I' b = I b) := by
  obtain ⟨z1, z2, z3, z4, z5⟩ := lenS h.1
  obtain ⟨l1, l2, l3, l4⟩ := hS
  obtain ⟨I1, e1, r1, f1⟩ := rs_add h (a := k + 25) (by unfold rowA; omega) (by omega) f
  obtain ⟨I2, e2, r2, f2⟩ := rs_add r1 (a := k + 21) (by unfold rowA; omega) (by rw [upL_n _ _ (by omega)]; omega) l
  rw [upL_n _ _ (by omega)] at e2 r2
  obtain ⟨I3, e3, r3, f3⟩ := rs_add r2 (a := k + 23) (by unfold rowA; omega) (by rw [upL_n _ _ (by omega), upL_n _ _ (by omega)]; omega) r
  rw [upL_n _ _ (by omega), upL_n _ _ (by omega)] at e3 r3
  obtain ⟨I4, e4, r4, f4⟩ := rs_add r3 (a := k + 27) (by unfold rowA; omega) (by rw [upL_n _ _ (by omega), upL_n _ _ (by omega), upL_n _ _ (by omega)]; omega) 0
  rw [upL_n _ _ (by omega), upL_n _ _ (by omega), upL_n _ _ (by omega)] at e4 r4
  obtain ⟨I5, e5, r5, f5⟩ := rs_add r4 (a := k + 19) (by unfold rowA; omega) (by rw [upL_n _ _ (by omega), upL_n _ _ (by omega), upL_n _ _ (by omega), upL_n _ _ (by omega)]; omega) op
  rw [upL_n _ _ (by omega), upL_n _ _ (by omega), upL_n _ _ (by omega), upL_n _ _ (by omega)] at e5 r5
  refine ⟨I5, by rw [e1, sb, e2, sb, e3, sb, e4, sb, e5, sb], r5, fun b q => ?_⟩
  rw [f5 b (by omega) (by omega), f4 b (by omega) (by omega), f3 b (by omega) (by omega), f2 b (by omega) (by omega), f1 b (by omega) (by omega)]
theorem leaf_ok {I : iT} (h : RS I k L) (hS : sumL k L) (hr : (L (k + 19)).length < 1000) (op l : Int32) : ∃ I', mX8_addLeaf (k + 18) I op l = some (nI (L (k + 19)).length, I') ∧ RS I' k (adS k L op l (-1) (nI (L (k + 19)).length)) ∧ (∀ b, ¬ (k + 19 ≤ b ∧ b ≤ k + 28) → I' b = I b) := by
  obtain ⟨I', e1, e2, e3⟩ := add5 h hS hr op l (-1) (nI (L (k + 19)).length)
  refine ⟨I', ?_, e2, e3⟩
  have e0 : mX8_addLeaf (k + 18) I op l = (mX4_size (k + 19) I).bind fun q1 => (mX4_add (k + 25) I q1).bind fun q2 => (mX4_add (k + 21) q2.2 l).bind fun q3 => (mX4_add (k + 23) q3.2 (-1)).bind fun q4 => (mX4_add (k + 27) q4.2 0).bind fun q5 => (mX4_add (k + 19) q5.2 op).bind fun q6 => some (q6.1, q6.2) := rfl
  rw [e0, rs_size h (by unfold rowA; omega), sb]
  exact e1
theorem node_ok8 {I : iT} (h : RS I k L) (hS : sumL k L) (hr : (L (k + 19)).length < 1000) (op : Int32) {l : Nat} (hl : l < 1000) (r : Int32) : ∃ I', mX8_addNode (k + 18) I op (nI l) r = some (nI (L (k + 19)).length, I') ∧ RS I' k (adS k L op (nI l) r (gI (L (k + 25)) l)) ∧ (∀ b, ¬ (k + 19 ≤ b ∧ b ≤ k + 28) → I' b = I b) := by
  obtain ⟨I', e1, e2, e3⟩ := add5 h hS hr op (nI l) r (gI (L (k + 25)) l)
  refine ⟨I', ?_, e2, e3⟩
  have e0 : mX8_addNode (k + 18) I op (nI l) r = (mX4_at (k + 25) I (nI l)).bind fun q1 => (mX4_add (k + 25) I q1).bind fun q2 => (mX4_add (k + 21) q2.2 (nI l)).bind fun q3 => (mX4_add (k + 23) q3.2 r).bind fun q4 => (mX4_add (k + 27) q4.2 0).bind fun q5 => (mX4_add (k + 19) q5.2 op).bind fun q6 => some (q6.1, q6.2) := rfl
  rw [e0, rs_g h (by unfold rowA; omega) (by omega), sb]
  exact e1
theorem fm_leaf {f p : Int32} {I : iT} (h : FM k f p I) (op l : Int32) : FMo k f p I (mX8_addLeaf (k + 18) I op l) := by
  have e0 : mX8_addLeaf (k + 18) I op l = (mX4_size (k + 19) I).bind fun q1 => (mX4_add (k + 25) I q1).bind fun q2 => (mX4_add (k + 21) q2.2 l).bind fun q3 => (mX4_add (k + 23) q3.2 (-1)).bind fun q4 => (mX4_add (k + 27) q4.2 0).bind fun q5 => (mX4_add (k + 19) q5.2 op).bind fun q6 => some (q6.1, q6.2) := rfl
  rw [e0]
  exact fmo_r (fm_size h (by unfold rowA; omega)) (fun v => fmo_o (fm_add h (by unfold rowB; omega) _) (fun _ I1 h1 => fmo_o (fm_add h1 (by unfold rowB; omega) _) (fun _ I2 h2 => fmo_o (fm_add h2 (by unfold rowB; omega) _) (fun _ I3 h3 => fmo_o (fm_add h3 (by unfold rowB; omega) _) (fun _ I4 h4 => fmo_o (fm_add h4 (by unfold rowB; omega) _) (fun _ I5 h5 => fmo_ret h5 _))))))
end
