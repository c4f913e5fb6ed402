/-! EVERY P, at each depth; a whole T (pure) -/
section
variable {k h M n : Nat} {D : List Df} {F : fT} {bs : List Nat} {b : Nat}
theorem p_all : ∀ (d nest : Nat), nest + d = 8 → ∀ (n1 n2 : Nat), 3 * d + 4 ≤ n1 → 3 * d + 4 ≤ n2 → HP k h M n D F bs b nest (mX3_readSteps n1) (mX12_readProcess n2) := by
  intro d
  induction d with
  | zero =>
    intro nest hn n1 n2 h1 h2 I B J L t rt md S a6 a8 a0 wd hC H
    obtain ⟨n1, rfl⟩ : ∃ y, n1 = y + 4 := ⟨n1 - 4, by omega⟩
    obtain ⟨n2, rfl⟩ : ∃ y, n2 = y + 4 := ⟨n2 - 4, by omega⟩
    have hwd := H.2.2.2.2.1.2.2.1
    have hl := lp_all (R := sc_3readAlternative (n1 + 3)) (R3 := sc_3readAlternative (n1 + 2)) (R2 := sc_3readAlternative (n1 + 1)) (R' := sc_12act (n2 + 3)) (R3' := sc_12act (n2 + 2)) (R2' := sc_12act (n2 + 1)) rfl rfl rfl rfl rfl rfl rfl (fun w => absurd w (by omega)) (fun f p b I x hp => rs_fail f p b I x hp) (80 - wd) wd (by omega) 0 (LF - (80 - wd) - 2) (LF - (80 - wd) - 2) (Nat.zero_le _) I B J L t rt md S a6 a8 a0 (-1) (-1) hC H (Or.inl rfl)
    have e : LF - (80 - wd) - 2 + (80 - wd) + 2 = LF := by unfold LF; omega
    rw [e] at hl
    obtain ⟨x, I', v, B', J', e1, e2, ho⟩ := hl
    refine ⟨x, I', v, B', J', e1, e2, ?_⟩
    rcases ho with ho | ⟨a, l, e, u, L', t', r', md', a6', a8', a0', wd', m, w1, w2, w3, w4⟩
    · exact Or.inl ho
    · rw [Nat.zero_add] at e
      exact Or.inr ⟨a, l, e, u, L', t', r', md', a6', a8', a0', wd', m, w1, w2, w3, w4⟩
  | succ d ih =>
    intro nest hn n1 n2 h1 h2 I B J L t rt md S a6 a8 a0 wd hC H
    obtain ⟨n1, rfl⟩ : ∃ y, n1 = y + 4 := ⟨n1 - 4, by omega⟩
    obtain ⟨n2, rfl⟩ : ∃ y, n2 = y + 4 := ⟨n2 - 4, by omega⟩
    have hwd := H.2.2.2.2.1.2.2.1
    have hl := lp_all (R := sc_3readAlternative (n1 + 3)) (R3 := sc_3readAlternative (n1 + 2)) (R2 := sc_3readAlternative (n1 + 1)) (R' := sc_12act (n2 + 3)) (R3' := sc_12act (n2 + 2)) (R2' := sc_12act (n2 + 1)) rfl rfl rfl rfl rfl rfl rfl (fun w => ih (nest + 1) (by omega) (n1 + 1) (n2 + 1) (by omega) (by omega)) (fun f p b I x hp => rs_fail f p b I x hp) (80 - wd) wd (by omega) 0 (LF - (80 - wd) - 2) (LF - (80 - wd) - 2) (Nat.zero_le _) I B J L t rt md S a6 a8 a0 (-1) (-1) hC H (Or.inl rfl)
    have e : LF - (80 - wd) - 2 + (80 - wd) + 2 = LF := by unfold LF; omega
    rw [e] at hl
    obtain ⟨x, I', v, B', J', e1, e2, ho⟩ := hl
    refine ⟨x, I', v, B', J', e1, e2, ?_⟩
    rcases ho with ho | ⟨a, l, e, u, L', t', r', md', a6', a8', a0', wd', m, w1, w2, w3, w4⟩
    · exact Or.inl ho
    · rw [Nat.zero_add] at e
      exact Or.inr ⟨a, l, e, u, L', t', r', md', a6', a8', a0', wd', m, w1, w2, w3, w4⟩
end
/-- between two Ts -/
def BT (k h M : Nat) (W : List Ent) (F : fT) (I B : iT) (J : jT) (L : lT) (P md : Nat) : Prop :=
  RS I k L ∧ F 142 3 = k ∧ tabL k L ∧ NT k h M L B J W ∧ (h < 2 ∧ B 186 32 = nI h ∧ B 186 16 = nI (1400 * h) ∧ B 186 17 = nI md ∧ M ≤ 1400 * h + md) ∧ (L 143 = [] ∧ L 145 = []) ∧ ((L (k + 2)).length ≤ P ∧ 2 * (L (k + 10)).length ≤ P ∧ md ≤ P)
section
variable {k h M : Nat} {W : List Ent} {F : fT} {I B : iT} {J : jT} {L : lT} {bs : List Nat} {t : Tok} {r : List Tok} {P md : Nat}
theorem tr_Q {Q Q' : Nat → Prop} (hT : tabL k L) (hQ : ∀ v, Q v → Q' v) {d m u tt p : Nat} (hm : d ≤ m) (H : TR k L B J Q d u tt p) : TR k L B J Q' m u tt p := tr_to hT TE.rfl (fun _ _ => ⟨rfl, rfl, rfl, rfl, rfl⟩) hQ _ _ _ _ _ hm H
theorem nt_M {M' : Nat} (hT : tabL k L) (H : NT k h M L B J W) (hM : M ≤ M') : NT k h M' L B J W := by
  obtain ⟨a1, a2, a3, a4, a5⟩ := H
  refine ⟨a1, a2, a3, a4, fun i e he => ?_⟩
  obtain ⟨y1, y2, y3, y4, y5⟩ := a5 i e he
  exact ⟨y1, y2, y3, y4, tr_Q hT (fun v hv => ⟨hv.1, by omega⟩) (Nat.le_refl _) y5⟩
/-- both read a whole T -/
theorem wh_ok (hC : CR I B J bs t r) (H : BT k h M W F I B J L t.2.2 md) : ∃ x I' v B' J', mX9_readWhole I F = some (x, I') ∧ mX12_wholeType B J = some (v, B', J') ∧ ((v = 0 ∧ FAIL k h I B J I' B' J') ∨ (v = 1 ∧ ∃ u tt p L' t' r' md', x = nI tt ∧ CR I' B' J' bs t' r' ∧ BT k h (1400 * h + md') W F I' B' J' L' t'.2.2 md' ∧ EXT k L L' ∧ TR k L' B' J' (fun v => 1400 * h ≤ v ∧ v < 1400 * h + md') p u tt p ∧ p ≤ 200 ∧ B' 186 36 = nI u ∧ md ≤ md' ∧ (L' (k + 2)).length + t.2.2 ≤ (L (k + 2)).length + t'.2.2 ∧ 2 * (L' (k + 10)).length + t.2.2 ≤ 2 * (L (k + 10)).length + t'.2.2 ∧ md' + t.2.2 ≤ md + t'.2.2 ∧ t.2.2 < t'.2.2 ∧ cT k I I' ∧ rT h md B J B' J')) := by
  obtain ⟨h1, h2, h3, h4, ⟨y1, y2, y3, y4, y5⟩, ⟨z1, z2⟩, ⟨w1, w2, w3⟩⟩ := H
  have fI : ∀ q, q ≠ 142 → (a_u2 I 142 4 (nI 0)) q = I q := fun q w => au2_b _ _ w
  have fB : ∀ q i, ¬ (q = 186 ∧ (i = 34 ∨ i = 35)) → (a_u2 (a_u2 B 186 34 (nI 0)) 186 35 (nI 0)) q i = B q i := fun q i w => by rw [a_u2_n _ _ (by omega), a_u2_n _ _ (by omega)]
  have hC1 : CR (a_u2 I 142 4 (nI 0)) (a_u2 (a_u2 B 186 34 (nI 0)) 186 35 (nI 0)) J bs t r := CR_B (CR_I hC (fI _ (by omega)) (fI _ (by omega)) (fI _ (by omega)) (fI _ (by omega))) (fun j _ _ => fB _ _ (by omega)) (funext fun j => fB _ _ (by omega)) rfl
  have HT : TS k h M W F (a_u2 I 142 4 (nI 0)) (a_u2 (a_u2 B 186 34 (nI 0)) 186 35 (nI 0)) J L t.2.2 0 md 0 := ⟨rs_sc h1 (by omega) _ _, h2, h3, nt_to h4 h3 TE.rfl rfl rfl (fun v _ _ => ⟨fB _ _ (by omega), fB _ _ (by omega), fB _ _ (by omega), fB _ _ (by omega), rfl⟩) (fB _ _ (by omega)) (fun _ => rfl) (fun _ => fB _ _ (by omega)), ⟨y1, by rw [fB _ _ (by omega)]; exact y2, by rw [fB _ _ (by omega)]; exact y3, by rw [fB _ _ (by omega)]; exact y4, y5⟩, ⟨by rw [a_u2_n _ _ (by omega), a_u2_s], a_u2_s _ _ _ _, by omega⟩, ⟨a_u2_s _ _ _ _, by omega, by rw [z1, z2], by rw [z1]; exact Nat.le_refl _⟩, ⟨w1, w2, w3⟩⟩
  obtain ⟨x, I', v, B', J', e1, e2, ho⟩ := rt_ok 12 0 rfl _ _ J L t r 0 md SF SF (by unfold SF; omega) (by unfold SF; omega) hC1 HT
  have hX : FX k I (a_u2 I 142 4 (nI 0)) := sc_FX (Or.inr rfl) _ _
  have hR : RX h B J (a_u2 (a_u2 B 186 34 (nI 0)) 186 35 (nI 0)) J := (RX_B _ (by unfold touR; omega)).trans (RX_B _ (by unfold touR; omega))
  refine ⟨x, I', v, B', J', ?_, ?_, ?_⟩
  · unfold mX9_readWhole
    show ((mX9_readType SF (a_u2 I 142 4 (nI 0)) F (nI 0)).bind _) = _
    rw [e1, sb]
  · unfold mX12_wholeType
    show ((mX12_readType SF (a_u2 (a_u2 B 186 34 (nI 0)) 186 35 (nI 0)) J).bind _) = _
    rw [e2, sb, if_pos (by
      rcases ho with ho | ho
      · exact Or.inl ho.1
      · exact Or.inr ho.1)]
  · rcases ho with ⟨a, b⟩ | ⟨a, u, tt, p, e, L', t', r', md', g1, g2, g3, g4, g5, g6, g7, g8, g9, g10, g11, g12⟩
    · exact Or.inl ⟨a, FAIL.pre hX hR b⟩
    · refine Or.inr ⟨a, u, tt, p, L', t', r', md', e, g1, ?_, g3, ?_, ?_, g5, g6, g7, g8, g9, g10, ?_, ?_⟩
      · obtain ⟨i1, i2, i3, i4, ⟨j1, j2, j3, j4, j5⟩, i6, i7, i8⟩ := g2
        have hk0 := i1.1
        exact ⟨i1, i2, i3, nt_M i3 i4 j5, ⟨j1, j2, j3, j4, Nat.le_refl _⟩, ⟨by rw [g3.2 _ (by omega)]; exact z1, by rw [g3.2 _ (by omega)]; exact z2⟩, i8⟩
      · exact tr_Q g2.2.2.1 (fun v hv => by omega) (Nat.le_refl _) g4
      · have := g2.2.2.2.2.2.1.2.2
        omega
      · exact (sc_cT (k := k) (I := I) 4 (nI 0)).trans g11
      · have r1 : rT h md B J (a_u2 (a_u2 B 186 34 (nI 0)) 186 35 (nI 0)) J := ⟨fun q i w1 w2 => fB q i (by omega), fun _ _ _ _ => rfl⟩
        exact r1.trans g12 (Nat.le_refl _)
theorem fm_whole {f p : Int32} (hp : FM k f p I) : FMo k f p I (mX9_readWhole I F) := by
  unfold mX9_readWhole
  have h1 : FM k f p (a_u2 I 142 4 0) := fm_sc hp (by omega) _ _
  have e : SF = 449 + 1 := rfl
  rw [e]
  obtain ⟨x, I', a1, a2, a3⟩ := fm_type F 449 h1 0
  exact ⟨x, I', by rw [a1, sb], a2, (sc_FY (k := k) (I := I) (Or.inr rfl) 4 0).trans a3⟩
end
