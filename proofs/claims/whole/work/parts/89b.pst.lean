/-! THE STATE WHILE A P IS READ (pure) -/
def nodL (k : Nat) (L : lT) : Prop := (L (k + 49)).length = (L (k + 47)).length ∧ (L (k + 51)).length = (L (k + 47)).length ∧ (L (k + 53)).length = (L (k + 47)).length ∧ (L (k + 57)).length = (L (k + 55)).length
/-- the DEFS ahead -/
def DD (k h M : Nat) (L : lT) (B : iT) (J : jT) (D : List Df) : Prop := L (k + 33) = D.map (fun e => nI (cN e.1)) ∧ B 205 h = nI D.length ∧ D.length ≤ 12 ∧ ∀ (f : Nat) (e : Df), D[f]? = some e → J 194 (12 * h + f) = lN (rN e.1) ∧ isN e.1 ∧ gI (L (k + 35)) f = nI e.2.2 ∧ (∃ u p, B 200 (12 * h + f) = nI u ∧ p ≤ 200 ∧ TR k L B J (fun v => 1400 * h ≤ v ∧ v < M) p u e.2.2 p) ∧ gI (L (k + 43)) f = nI e.2.1.length ∧ B 198 (12 * h + f) = nI e.2.1.length ∧ e.2.1.length ≤ 4 ∧ ∀ (i : Nat) (q : Nat × Nat), e.2.1[i]? = some q → ((q.1 = 1 ∧ gI (L (k + 45)) (f * 4 + i) = -1 ∧ B 199 (4 * (12 * h + f) + i) = -1) ∨ (q.1 = 2 ∧ gI (L (k + 45)) (f * 4 + i) = nI q.2 ∧ ∃ u p, B 199 (4 * (12 * h + f) + i) = nI u ∧ p ≤ 200 ∧ TR k L B J (fun v => 1400 * h ≤ v ∧ v < M) p u q.2 p))
def PS (k h M n : Nat) (D : List Df) (F : fT) (I B : iT) (J : jT) (L : lT) (P md nest : Nat) (S : List Sl) (a6 a8 a0 : List Int32) (wd b z : Nat) : Prop :=
  XS k h M n F I B J L P md nest nest S a6 a8 a0 ∧ (F 134 4 = k ∧ B 186 32 = nI h) ∧ nodL k L ∧ DD k h M L B J D ∧ (B 186 44 = nI wd ∧ I 134 5 = nI wd ∧ wd ≤ 80 ∧ S.length ≤ 5 + wd) ∧ (4 * (L (k + 47)).length ≤ P + z ∧ 2 * (L (k + 59)).length ≤ P ∧ 3 * (L (k + 55)).length ≤ P + 18 * nest) ∧ ((∀ i, i < 9 → ∃ s, s ≤ b ∧ gI a0 i = nI s) ∧ 85 ≤ b ∧ b ≤ 9000)
/-- what a reader of processes leaves -/
def FQ (k : Nat) (I I' : iT) : Prop := ∀ b, b ≠ 6 → ¬ (134 ≤ b ∧ b ≤ 146) → ¬ (k ≤ b ∧ b ≤ k + 60) → I' b = I b
theorem FQ.rfl {k : Nat} {I : iT} : FQ k I I := fun _ _ _ _ => Eq.refl _
theorem FQ.trans {k : Nat} {I I1 I2 : iT} (h : FQ k I I1) (g : FQ k I1 I2) : FQ k I I2 := fun b h1 h2 h3 => (g b h1 h2 h3).trans (h b h1 h2 h3)
theorem FP_FQ {k : Nat} {I I1 : iT} (h : FP k I I1) : FQ k I I1 := fun b h1 h2 h3 => h b h1 h2 (by omega)
theorem FX_FQ {k : Nat} {I I1 : iT} (h : FX k I I1) : FQ k I I1 := fun b h1 h2 h3 => h b h1 (by omega) h3
/-- both fail while a P is read -/
def PL (k hf c : Nat) (I : iT) (B : iT) (J : jT) (I' : iT) (B' : iT) (J' : jT) : Prop := ∃ f p, PF k f p c I' ∧ FQ k I I' ∧ B' 186 7 = f ∧ B' 186 8 = p ∧ RX hf B J B' J'
section
variable {k hf c : Nat} {I B : iT} {J : jT}
theorem PL.pre {I1 I2 B1 B2 : iT} {J1 J2 : jT} (a : FQ k I I1) (b : RX hf B J B1 J1) (h : PL k hf c I1 B1 J1 I2 B2 J2) : PL k hf c I B J I2 B2 J2 := by
  obtain ⟨f, p, c1, c2, c3, c4, c5⟩ := h
  exact ⟨f, p, c1, a.trans c2, c3, c4, b.trans c5⟩
theorem pfo_PL {α : Type} {I1 B1 : iT} {J1 : jT} {c' : Nat} (H : PL k hf c I B J I1 B1 J1) {o : Option (α × iT)} (ho : ∀ f p, PF k f p c I1 → PFo k f p c' I1 o) : ∃ x I', o = some (x, I') ∧ PL k hf c' I B J I' B1 J1 := by
  obtain ⟨f, p, c1, c2, c3, c4, c5⟩ := H
  obtain ⟨x, I', e1, e2, e3⟩ := ho f p c1
  exact ⟨x, I', e1, f, p, e2, c2.trans (FP_FQ e3), c3, c4, c5⟩
theorem pfu_PL {I1 B1 : iT} {J1 : jT} {c' : Nat} (H : PL k hf c I B J I1 B1 J1) {o : Option iT} (ho : ∀ f p, PF k f p c I1 → PFu k f p c' I1 o) : ∃ I', o = some I' ∧ PL k hf c' I B J I' B1 J1 := by
  obtain ⟨f, p, c1, c2, c3, c4, c5⟩ := H
  obtain ⟨I', e1, e2, e3⟩ := ho f p c1
  exact ⟨I', e1, f, p, e2, c2.trans (FP_FQ e3), c3, c4, c5⟩
/-- a fault of an E or a T -/
theorem fail_PL {I' B' : iT} {J' : jT} (H : FAIL k hf I B J I' B' J') (hs : SCP c I) (hc : c ≤ 10000) : PL k hf c I B J I' B' J' := by
  obtain ⟨f, p, c1, c2, c3, c4, c5⟩ := H
  have hk : k = 12 ∨ k = 73 := c1.1.elim fun _ z => z.1
  exact ⟨f, p, ⟨c1, hs.keep (fun q q1 q2 => c2 q (by omega) (by omega) (by omega)), hc⟩, FX_FQ c2, c3, c4, c5⟩
end
section
variable {k h M n : Nat} {D : List Df} {F : fT} {I B : iT} {J : jT} {L : lT} {bs : List Nat} {t : Tok} {r : List Tok} {P md nest wd b z : Nat} {S : List Sl} {a6 a8 a0 : List Int32}
theorem ps_scp (H : PS k h M n D F I B J L P md nest S a6 a8 a0 wd b z) : SCP b I := by
  have hsr := H.1.2.2.2.2.2.1
  exact ⟨a6, a8, a0, nest, hsr.1, hsr.2.1.1, hsr.2.1.2.1, H.2.2.2.2.2.2.1⟩
theorem dd_to {L' : lT} {B' : iT} {J' : jT} (H : DD k h M L B J D) (hT : tabL k L) (hE : TE k L L') (h33 : L' (k + 33) = L (k + 33)) (h35 : ∀ f, f < D.length → gI (L' (k + 35)) f = gI (L (k + 35)) f) (h43 : ∀ f, f < D.length → gI (L' (k + 43)) f = gI (L (k + 43)) f) (h45 : ∀ f, f < 4 * D.length → gI (L' (k + 45)) f = gI (L (k + 45)) f) (hA : ∀ v, 1400 * h ≤ v → v < M → (B' 188 v = B 188 v ∧ B' 189 v = B 189 v ∧ B' 190 v = B 190 v ∧ B' 191 v = B 191 v ∧ J' 192 v = J 192 v)) (hB : ∀ q i, q = 198 ∨ q = 199 ∨ q = 200 ∨ q = 205 → B' q i = B q i) (hJ : ∀ i, J' 194 i = J 194 i) : DD k h M L' B' J' D := by
  obtain ⟨d1, d2, d3, d4⟩ := H
  refine ⟨by rw [h33]; exact d1, by rw [hB _ _ (by omega)]; exact d2, d3, fun f e he => ?_⟩
  have hf : f < D.length := (List.getElem?_eq_some_iff.mp he).1
  obtain ⟨x1, x2, x3, ⟨u, p, x4, x5, x6⟩, x7, x8, x9, x10⟩ := d4 f e he
  have tr : ∀ {u t p : Nat}, TR k L B J (fun v => 1400 * h ≤ v ∧ v < M) p u t p → TR k L' B' J' (fun v => 1400 * h ≤ v ∧ v < M) p u t p := fun z => tr_to hT hE (fun v hv => hA v hv.1 hv.2) (fun v hv => hv) _ _ _ _ _ (Nat.le_refl _) z
  refine ⟨by rw [hJ]; exact x1, x2, by rw [h35 f hf]; exact x3, ⟨u, p, by rw [hB _ _ (by omega)]; exact x4, x5, tr x6⟩, by rw [h43 f hf]; exact x7, by rw [hB _ _ (by omega)]; exact x8, x9, fun i q hq => ?_⟩
  have hi : i < e.2.1.length := (List.getElem?_eq_some_iff.mp hq).1
  rcases x10 i q hq with ⟨y1, y2, y3⟩ | ⟨y1, y2, u', p', y3, y4, y5⟩
  · exact Or.inl ⟨y1, by rw [h45 _ (by omega)]; exact y2, by rw [hB _ _ (by omega)]; exact y3⟩
  · exact Or.inr ⟨y1, by rw [h45 _ (by omega)]; exact y2, u', p', by rw [hB _ _ (by omega)]; exact y3, y4, tr y5⟩
/-- the cursors may go on -/
theorem ps_cur (H : PS k h M n D F I B J L P md nest S a6 a8 a0 wd b z) {I' B' : iT} {J' : jT} {P' : Nat} (a : cf I I') (c : rf B J B' J') (hP : P ≤ P') : PS k h M n D F I' B' J' L P' md nest S a6 a8 a0 wd b z := by
  obtain ⟨h1, ⟨h2, h3⟩, h4, h5, ⟨h6, h7, h8, h9⟩, ⟨h10, h11, h12⟩, h13⟩ := H
  exact ⟨xs_cur h1 a c hP, ⟨h2, by rw [c.1 _ _ (by omega)]; exact h3⟩, h4, dd_to h5 h1.2.2.1 TE.rfl rfl (fun _ _ => rfl) (fun _ _ => rfl) (fun _ _ => rfl) (fun v _ _ => ⟨c.1 _ _ (by omega), c.1 _ _ (by omega), c.1 _ _ (by omega), c.1 _ _ (by omega), c.2 _ _ (by omega)⟩) (fun q i hq => c.1 _ _ (by omega)) (fun i => c.2 _ _ (by omega)), ⟨by rw [c.1 _ _ (by omega)]; exact h6, by rw [a _ _ (by omega)]; exact h7, h8, h9⟩, ⟨by omega, by omega, by omega⟩, h13⟩
/-- both refuse at once -/
theorem pbad (hC : CR I B J bs t r) (H : PS k h M n D F I B J L P md nest S a6 a8 a0 wd b z) {f : Int32} (hn : f ≠ 0) (p : Int32) : ∃ I' B', mX2_refuse I f p = some I' ∧ mX12_bad B f p = some (0, B') ∧ PL k h b I B J I' B' J ∧ (∀ q, q ≠ 6 → I' q = I q) := by
  obtain ⟨I', B', e1, e2, e3, e4⟩ := jbad hC H.1.1 h hn p
  exact ⟨I', B', e1, e2, fail_PL e3 (ps_scp H) (by have := H.2.2.2.2.2.2.2.2; omega), e4⟩
end
