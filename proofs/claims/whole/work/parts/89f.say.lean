/-! STATEMENTS ARE READ, in both (pure): frames and outcome; say -/
def cQ (k : Nat) (I I' : iT) : Prop := ∀ b, b ≠ 6 → ¬ (135 ≤ b ∧ b ≤ 141) → ¬ (k + 19 ≤ b ∧ b ≤ k + 60) → I' b = I b
theorem cQ.rfl {k : Nat} {I : iT} : cQ k I I := fun _ _ _ _ => Eq.refl _
theorem cQ.trans {k : Nat} {I I1 I2 : iT} (a : cQ k I I1) (b : cQ k I1 I2) : cQ k I I2 := fun x p q r => (b x p q r).trans (a x p q r)
theorem cQ_FQ {k : Nat} {I I1 : iT} (a : cQ k I I1) : FQ k I I1 := fun x p q r => a x p (by omega) (by omega)
theorem cf_cQ {k : Nat} {I I1 : iT} (a : cf I I1) : cQ k I I1 := fun x p _ _ => cf_b a p
theorem cS_cQ {k : Nat} {I I1 : iT} (a : cS k I I1) : cQ k I I1 := fun x p _ q => a x p (by omega)
def rP (h md nest : Nat) (B : iT) (J : jT) (B' : iT) (J' : jT) : Prop := (∀ b i, ¬ (b = 186 ∧ ((2 ≤ i ∧ i ≤ 5) ∨ i = 17 ∨ (43 ≤ i ∧ i ≤ 51))) → ¬ (188 ≤ b ∧ b ≤ 191 ∧ 1400 * h + md ≤ i ∧ i < 1400 * h + 1400) → ¬ (208 ≤ b ∧ b ≤ 209) → ¬ (210 ≤ b ∧ b ≤ 211 ∧ 128 * (nest + 1) ≤ i) → B' b i = B b i) ∧ (∀ b i, ¬ (b = 186 ∧ i = 6) → ¬ (b = 192 ∧ 1400 * h + md ≤ i ∧ i < 1400 * h + 1400) → ¬ (b = 206) → ¬ (b = 207 ∧ 128 * (nest + 1) ≤ i) → J' b i = J b i)
theorem rP.rfl {h md nest : Nat} {B : iT} {J : jT} : rP h md nest B J B J := ⟨fun _ _ _ _ _ _ => Eq.refl _, fun _ _ _ _ _ _ => Eq.refl _⟩
theorem rP.trans {h md md1 nest nest1 : Nat} {B B1 B2 : iT} {J J1 J2 : jT} (a : rP h md nest B J B1 J1) (b : rP h md1 nest1 B1 J1 B2 J2) (hm : md ≤ md1) (hn : nest ≤ nest1) : rP h md nest B J B2 J2 :=
  ⟨fun x i p q r s => (b.1 x i p (by omega) r (by omega)).trans (a.1 x i p q r s), fun x i p q r s => (b.2 x i p (by omega) r (by omega)).trans (a.2 x i p q r s)⟩
theorem rP_RX {h md nest : Nat} {B B1 : iT} {J J1 : jT} (a : rP h md nest B J B1 J1) : RX h B J B1 J1 := by
  intro b i q
  unfold touR at q
  exact ⟨a.1 b i (by omega) (by omega) (by omega) (by omega), a.2 b i (by omega) (by omega) (by omega) (by omega)⟩
theorem rf_rP {h md nest : Nat} {B B1 : iT} {J J1 : jT} (a : rf B J B1 J1) : rP h md nest B J B1 J1 := ⟨fun b i p _ _ _ => a.1 b i (by omega), fun b i p _ _ _ => a.2 b i p⟩
theorem rS_rP {h md nest : Nat} {B B1 : iT} {J J1 : jT} (a : rS h md B J B1 J1) : rP h md nest B J B1 J1 := ⟨fun b i p q _ _ => a.1 b i (by omega) q, fun b i p q _ _ => a.2 b i p q⟩
/-- extras are small -/
def EXB (k : Nat) (L L' : lT) : Prop := (∀ j, j < (L (k + 47)).length → EB (gI (L (k + 53)) j)) → ∀ j, j < (L' (k + 47)).length → EB (gI (L' (k + 53)) j)
/-- how the class's rows grow while a piece of a P is read -/
def PGr (k : Nat) (L L' : lT) (P P' md md' : Nat) : Prop := SE k L L' ∧ (∀ a, ¬ (k + 19 ≤ a ∧ a ≤ k + 59) → L' a = L a) ∧ ((∀ a, k + 29 ≤ a → a ≤ k + 46 → L' a = L a) ∧ EXB k L L') ∧ (∀ j, j < (L (k + 47)).length → (gI (L' (k + 47)) j = gI (L (k + 47)) j ∧ gI (L' (k + 49)) j = gI (L (k + 49)) j ∧ gI (L' (k + 51)) j = gI (L (k + 51)) j ∧ gI (L' (k + 53)) j = gI (L (k + 53)) j)) ∧ (∀ j, j < (L (k + 55)).length → (gI (L' (k + 55)) j = gI (L (k + 55)) j ∧ gI (L' (k + 57)) j = gI (L (k + 57)) j)) ∧ (∃ r, L' (k + 59) = L (k + 59) ++ r) ∧ (L (k + 47)).length ≤ (L' (k + 47)).length ∧ (L (k + 55)).length ≤ (L' (k + 55)).length ∧ md ≤ md' ∧ P < P' ∧ (L' (k + 19)).length + P ≤ (L (k + 19)).length + P' ∧ md' + P ≤ md + P' ∧ 4 * (L' (k + 47)).length + P ≤ 4 * (L (k + 47)).length + P' ∧ 2 * (L' (k + 59)).length + P ≤ 2 * (L (k + 59)).length + P' ∧ 3 * (L' (k + 55)).length + P ≤ 3 * (L (k + 55)).length + P'
/-- the levels below stay -/
def LK (nest : Nat) (a6 a8 a0 b6 b8 b0 : List Int32) : Prop := (∀ j, j < nest * 85 → gI b6 j = gI a6 j ∧ gI b8 j = gI a8 j) ∧ (∀ j, j < nest → gI b0 j = gI a0 j)
section
variable {nest : Nat} {a6 a8 a0 b6 b8 b0 : List Int32}
theorem lk_rfl : LK nest a6 a8 a0 a6 a8 a0 := ⟨fun _ _ => ⟨rfl, rfl⟩, fun _ _ => rfl⟩
theorem lk_6 {i : Nat} {v : Int32} (h : LK nest a6 a8 a0 b6 b8 b0) : LK nest a6 a8 a0 (b6.set (nest * 85 + i) v) b8 b0 := ⟨fun j hj => ⟨by rw [gI_sn (by omega)]; exact (h.1 j hj).1, (h.1 j hj).2⟩, h.2⟩
theorem lk_8 {i : Nat} {v : Int32} (h : LK nest a6 a8 a0 b6 b8 b0) : LK nest a6 a8 a0 b6 (b8.set (nest * 85 + i) v) b0 := ⟨fun j hj => ⟨(h.1 j hj).1, by rw [gI_sn (by omega)]; exact (h.1 j hj).2⟩, h.2⟩
theorem lk_0 {v : Int32} (h : LK nest a6 a8 a0 b6 b8 b0) : LK nest a6 a8 a0 b6 b8 (b0.set nest v) := ⟨h.1, fun j hj => by rw [gI_sn (by omega)]; exact h.2 j hj⟩
theorem LK.trans {c6 c8 c0 : List Int32} (h : LK nest a6 a8 a0 b6 b8 b0) (g : LK nest b6 b8 b0 c6 c8 c0) : LK nest a6 a8 a0 c6 c8 c0 := ⟨fun j hj => ⟨(g.1 j hj).1.trans (h.1 j hj).1, (g.1 j hj).2.trans (h.1 j hj).2⟩, fun j hj => (g.2 j hj).trans (h.2 j hj)⟩
end
/-- what a statement that goes on leaves, before its ';' -/
def SG (k h M n : Nat) (D : List Df) (F : fT) (I B : iT) (J : jT) (L : lT) (bs : List Nat) (P md nest : Nat) (S : List Sl) (a6 a8 a0 : List Int32) (wd b : Nat) (I' B' : iT) (J' : jT) : Prop :=
  ∃ u L' t' r' md' S' a6' a8' a0', CR I' B' J' bs t' r' ∧ PS k h M n D F I' B' J' L' t'.2.2 md' nest S' a6' a8' a0' wd b 0 ∧ B' 186 49 = nI u ∧ 1400 * h + md ≤ u ∧ u < 1400 * h + md' ∧ B' 191 u = -1 ∧ ST k n D L' B' J' (fun v => 1400 * h + md ≤ v ∧ v < 1400 * h + md' ∧ v ≠ u) (fun κ => (L (k + 47)).length ≤ κ ∧ κ < (L' (k + 47)).length) u (L (k + 47)).length (gm S) (gm S') ∧ (L' (k + 47)).length = (L (k + 47)).length + 1 ∧ PGr k L L' P t'.2.2 md md' ∧ cQ k I I' ∧ rP h md nest B J B' J' ∧ LK nest a6 a8 a0 a6' a8' a0'
theorem gm_len (S : List Sl) : (gm S).length = S.length := by unfold gm; simp
theorem ns_gm (S : List Sl) : ∀ i, nsS S i → nsG (gm S) i := by
  intro i ⟨s, h1, h2⟩
  refine ⟨s.2.2.2.1, ?_⟩
  unfold gm
  rw [List.getElem?_map, h1, ← h2]; rfl
theorem er_ns {k n : Nat} {N N' : Nat → Prop} {L : lT} {B : iT} {Q : Nat → Prop} (hN : ∀ i, N i → N' i) : ∀ (d e r f ρ : Nat), ER k n N L B Q d e r f ρ → ER k n N' L B Q d e r f ρ := by
  intro d
  induction d with
  | zero => intro e r f ρ h; exact h.elim
  | succ d ih =>
    intro e r f ρ h
    obtain ⟨h1, h2, h3, h4, h5, h5b, h6⟩ := h
    refine ⟨h1, h2, h3, h4, h5, h5b, ?_⟩
    rcases h6 with h | ⟨i, c1, c2, c3, c4, c5, c6, c7⟩ | ⟨e1, r1, ρ1, c1, c2, c3, c4, c5, c6, c6b, c7⟩ | ⟨kd, w, e1, r1, e2, r2, ρ2, c1, c2, c3, c4, c5, c6, c7, c8, c8b, c9, c10⟩
    · exact Or.inl h
    · exact Or.inr (Or.inl ⟨i, c1, c2, c3, c4, c5, c6, hN i c7⟩)
    · exact Or.inr (Or.inr (Or.inl ⟨e1, r1, ρ1, c1, c2, c3, c4, c5, c6, c6b, ih _ _ _ _ c7⟩))
    · exact Or.inr (Or.inr (Or.inr ⟨kd, w, e1, r1, e2, r2, ρ2, c1, c2, c3, c4, c5, c6, c7, c8, c8b, ih _ _ _ _ c9, ih _ _ _ _ c10⟩))
