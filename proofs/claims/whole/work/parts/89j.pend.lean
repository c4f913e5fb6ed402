/-! THE STATE BEHIND A WHOLE P (pure): the reference's slots are no more of interest -/
def PE (k h M n : Nat) (D : List Df) (F : fT) (I B : iT) (J : jT) (L : lT) (P md nest : Nat) (a6 a8 a0 : List Int32) (wd b : Nat) : Prop :=
  RS I k L ∧ (F 147 2 = k + 18 ∧ F 134 4 = k) ∧ tabL k L ∧ sumL k L ∧ nodL k L ∧ DD k h M L B J D ∧ (h < 2 ∧ B 186 16 = nI (1400 * h) ∧ B 186 17 = nI md ∧ M ≤ 1400 * h + md ∧ B 186 32 = nI h) ∧ (SW I a6 a8 a0 ∧ I 135 3 = nI nest) ∧ (B 186 45 = nI nest ∧ nest ≤ 8) ∧ (B 186 44 = nI wd ∧ I 134 5 = nI wd ∧ wd ≤ 80) ∧ ((L (k + 19)).length ≤ P ∧ md ≤ P ∧ 4 * (L (k + 47)).length ≤ P ∧ 2 * (L (k + 59)).length ≤ P ∧ 3 * (L (k + 55)).length ≤ P + 18 * nest) ∧ ((∀ i, i < 9 → ∃ s, s ≤ b ∧ gI a0 i = nI s) ∧ 85 ≤ b ∧ b ≤ 9000)
section
variable {k h M n : Nat} {D : List Df} {F : fT} {I B : iT} {J : jT} {L : lT} {P md nest wd b : Nat} {S : List Sl} {a6 a8 a0 : List Int32}
theorem ps_pe (H : PS k h M n D F I B J L P md nest S a6 a8 a0 wd b 0) : PE k h M n D F I B J L P md nest a6 a8 a0 wd b := by
  obtain ⟨⟨x1, x2, x3, x4, ⟨y1, y2, y3, y4⟩, x6, x7, x8, x9⟩, ⟨h2, h3⟩, h4, h5, ⟨h6, h7, h8, h9⟩, ⟨h10, h11, h12⟩, h13⟩ := H
  exact ⟨x1, ⟨x2, h2⟩, x3, x4, h4, h5, ⟨y1, y2, y3, y4, h3⟩, ⟨x6.1, x6.2.1.1⟩, x7, ⟨h6, h7, h8⟩, ⟨x8, x9, by omega, h11, h12⟩, h13⟩
theorem pe_scp (H : PE k h M n D F I B J L P md nest a6 a8 a0 wd b) : SCP b I := ⟨a6, a8, a0, nest, H.2.2.2.2.2.2.2.1.1, H.2.2.2.2.2.2.2.1.2, H.2.2.2.2.2.2.2.2.1.2, H.2.2.2.2.2.2.2.2.2.2.2.1⟩
end
/-- what a whole P leaves: its first node u, its first class node, its least -/
def EG (k h M n : Nat) (D : List Df) (F : fT) (I B : iT) (J : jT) (L : lT) (bs : List Nat) (P md nest : Nat) (Γ : Gm) (a6 a8 a0 : List Int32) (b : Nat) (I' B' : iT) (J' : jT) (u l : Nat) : Prop :=
  ∃ L' t' r' md' a6' a8' a0' wd' m, CR I' B' J' bs t' r' ∧ PE k h M n D F I' B' J' L' t'.2.2 md' nest a6' a8' a0' wd' b ∧ 1400 * h + md ≤ u ∧ u < 1400 * h + md' ∧ PR k n D L' B' J' (fun v => 1400 * h + md ≤ v ∧ v < 1400 * h + md') (fun κ => (L (k + 47)).length ≤ κ ∧ κ < (L' (k + 47)).length) (fun c => (L (k + 55)).length ≤ c ∧ c < (L' (k + 55)).length) m u (L (k + 47)).length l Γ ∧ m ≤ 1000 ∧ 1 ≤ l ∧ l ≤ 81 ∧ (∀ j, j < nest * 85 → gI a6' j = gI a6 j ∧ gI a8' j = gI a8 j) ∧ (∀ j, j < nest → gI a0' j = gI a0 j) ∧ PGr k L L' P t'.2.2 md md' ∧ cQ k (a_u2 I 134 5 (I' 134 5)) I' ∧ rP h md nest B J B' J'
