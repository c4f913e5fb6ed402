/-! A P IS READ STATEMENT BY STATEMENT, in both (pure) -/
def lnB (B : iT) (x1 x2 : Int32) (u : Nat) : iT := if x1 = -1 then B else a_u2 B 191 x2.toNatClampNeg (nI u)
def hdX (x1 : Int32) (u : Nat) : Int32 := if x1 = -1 then nI u else x1
/-- the first and the last node so far -/
def X12 (h M md : Nat) (x1 x2 : Int32) : Prop := x1 = -1 ∨ ∃ f0 l0, x1 = nI f0 ∧ x2 = nI l0 ∧ f0 < 2800 ∧ l0 < 1400 * h + md ∧ M ≤ l0 ∧ 1400 * h ≤ l0 ∧ l0 < 2800
def WL (k h M n : Nat) (D : List Df) (F : fT) (I B : iT) (J : jT) (L : lT) (bs : List Nat) (P md nest : Nat) (Γ : Gm) (a6 a8 a0 : List Int32) (wd b : Nat) (x1 x2 : Int32) (I' B' : iT) (J' : jT) (l : Nat) : Prop :=
  ∃ u L' t' r' md' a6' a8' a0' wd' m, CR I' B' J' bs t' r' ∧ PE k h M n D F I' B' J' L' t'.2.2 md' nest a6' a8' a0' wd' b ∧ B' 186 49 = hdX x1 u ∧ PR k n D L' B' J' (fun v => 1400 * h + md ≤ v ∧ v < 1400 * h + md') (fun κ => (L (k + 47)).length ≤ κ ∧ κ < (L' (k + 47)).length) (fun c => (L (k + 55)).length ≤ c ∧ c < (L' (k + 55)).length) m u (L (k + 47)).length l Γ ∧ (m + (L (k + 47)).length ≤ (L' (k + 47)).length ∧ l ≤ m) ∧ wd + l ≤ wd' ∧ PGr k L L' P t'.2.2 md md' ∧ cW k I I' ∧ rP h md nest (lnB B x1 x2 u) J B' J' ∧ LK nest a6 a8 a0 a6' a8' a0'
def LO (k h M n : Nat) (D : List Df) (F : fT) (I B : iT) (J : jT) (L : lT) (bs : List Nat) (P md nest : Nat) (S : List Sl) (a6 a8 a0 : List Int32) (wd b : Nat) (x1 x2 : Int32) (c : Nat) (oc : Option (Int32 × iT)) (or : Option (Int32 × iT × jT)) : Prop :=
  ∃ x I' v B' J', oc = some (x, I') ∧ or = some (v, B', J') ∧ ((v = 0 ∧ PL k h (b + 1) I B J I' B' J') ∨ (v = 1 ∧ ∃ l, x = nI (c + l) ∧ WL k h M n D F I B J L bs P md nest (gm S) a6 a8 a0 wd b x1 x2 I' B' J' l))
/-- the reference behind a statement -/
def lkR (R : sc_12actT) (K : iT → jT → Int32 → Int32 → Int32 → Option (Int32 × iT × jT)) (q2 : Int32 × iT × jT) (x1 x2 x4 : Int32) : Option (Int32 × iT × jT) := if q2.1 = 0 then some (0, q2.2.1, q2.2.2) else if x1 = -1 then mX12_readProcess_153 R K q2.2.1 q2.2.2 (q2.2.1 186 49) x2 0 x4 else if inb x2 2800 then mX12_readProcess_153 R K (a_u2 q2.2.1 191 x2.toNatClampNeg (q2.2.1 186 49)) q2.2.2 x1 x2 0 x4 else none
section
variable {k h M n : Nat} {D : List Df} {F : fT} {I B : iT} {J : jT} {L : lT} {bs : List Nat} {t : Tok} {r : List Tok} {P md nest wd b z : Nat} {S : List Sl} {a6 a8 a0 : List Int32} {x1 x2 : Int32} {u : Nat}
theorem lnB_c (q i : Nat) (hq : q ≠ 191) : lnB B x1 x2 u q i = B q i := by
  unfold lnB
  by_cases w : x1 = -1
  · rw [if_pos w]
  · rw [if_neg w, a_u2_n _ _ (fun z => hq z.1)]
theorem lnB_v (hX : X12 h M md x1 x2) (q i : Nat) (hi : i < M ∨ 1400 * h + md ≤ i ∨ i < 1400 * h) : lnB B x1 x2 u q i = B q i := by
  unfold lnB
  rcases hX with w | ⟨f0, l0, w1, w2, w3, w4, w5, w6, w7⟩
  · rw [if_pos w]
  · rw [if_neg (by rw [w1]; exact nIm (by omega)), w2, cl28 w7, a_u2_n _ _ (by omega)]
theorem lnB_RX (hX : X12 h M md x1 x2) (hm : md ≤ 1000) : RX h B J (lnB B x1 x2 u) J := by
  intro q i w
  refine ⟨?_, rfl⟩
  by_cases w1 : q = 191
  · refine lnB_v hX q i ?_
    unfold touR at w
    omega
  · exact lnB_c q i w1
theorem lk_eq {R : sc_12actT} {K : iT → jT → Int32 → Int32 → Int32 → Option (Int32 × iT × jT)} (hX : X12 h M md x1 x2) (e49 : B 186 49 = nI u) (x4 : Int32) : lkR R K (1, B, J) x1 x2 x4 = mX12_readProcess_153 R K (lnB B x1 x2 u) J (hdX x1 u) x2 0 x4 := by
  unfold lkR hdX lnB
  show (if (1 : Int32) = 0 then some (0, B, J) else if x1 = -1 then mX12_readProcess_153 R K B J (B 186 49) x2 0 x4 else if inb x2 2800 then mX12_readProcess_153 R K (a_u2 B 191 x2.toNatClampNeg (B 186 49)) J x1 x2 0 x4 else none) = _
  rw [if_neg i10, e49]
  rcases hX with w | ⟨f0, l0, w1, w2, w3, w4, w5, w6, w7⟩
  · rw [if_pos w, if_pos w, if_pos w]
  · have hn : ¬ x1 = -1 := by rw [w1]; exact nIm (by omega)
    rw [if_neg hn, if_neg hn, if_neg hn, if_pos (by rw [w2]; exact in28 w7)]
theorem pe_B (H : PE k h M n D F I B J L P md nest a6 a8 a0 wd b) {B' : iT} (hB : ∀ q i, ¬ (q = 186 ∧ 46 ≤ i ∧ i ≤ 51) → ¬ (188 ≤ q ∧ q ≤ 191 ∧ M ≤ i) → B' q i = B q i) : PE k h M n D F I B' J L P md nest a6 a8 a0 wd b := by
  obtain ⟨x1, x2, x3, x4, x5, x6, ⟨y1, y2, y3, y4, y5⟩, x8, ⟨z1, z2⟩, ⟨w1, w2, w3⟩, x11, x12⟩ := H
  exact ⟨x1, x2, x3, x4, x5, dd_to x6 x3 TE.rfl rfl (fun _ _ => rfl) (fun _ _ => rfl) (fun _ _ => rfl) (fun v _ q2 => ⟨hB _ _ (by omega) (by omega), hB _ _ (by omega) (by omega), hB _ _ (by omega) (by omega), hB _ _ (by omega) (by omega), rfl⟩) (fun q i hq => hB _ _ (by omega) (by omega)) (fun _ => rfl), ⟨y1, by rw [hB _ _ (by omega) (by omega)]; exact y2, by rw [hB _ _ (by omega) (by omega)]; exact y3, y4, by rw [hB _ _ (by omega) (by omega)]; exact y5⟩, x8, ⟨by rw [hB _ _ (by omega) (by omega)]; exact z1, z2⟩, ⟨by rw [hB _ _ (by omega) (by omega)]; exact w1, w2, w3⟩, x11, x12⟩
theorem ps_lnk (hX : X12 h M md x1 x2) {md' : Nat} (H : PS k h M n D F I B J L P md' nest S a6 a8 a0 wd b z) : PS k h M n D F I (lnB B x1 x2 u) J L P md' nest S a6 a8 a0 wd b z := by
  have fB : ∀ q j, q ≠ 191 → (lnB B x1 x2 u) q j = B q j := fun q j w => lnB_c q j w
  have fM : ∀ v, 1400 * h ≤ v → v < M → ((lnB B x1 x2 u) 188 v = B 188 v ∧ (lnB B x1 x2 u) 189 v = B 189 v ∧ (lnB B x1 x2 u) 190 v = B 190 v ∧ (lnB B x1 x2 u) 191 v = B 191 v ∧ J 192 v = J 192 v) := fun v w1 w2 => ⟨lnB_v hX _ _ (Or.inl w2), lnB_v hX _ _ (Or.inl w2), lnB_v hX _ _ (Or.inl w2), lnB_v hX _ _ (Or.inl w2), rfl⟩
  generalize lnB B x1 x2 u = B2 at fB fM ⊢
  obtain ⟨⟨x1, x2, x3, x4, ⟨y1, y2, y3, y4⟩, x6, ⟨y5, y6⟩, x8⟩, ⟨h2, h3⟩, h4, h5, ⟨h6, h7⟩, h10, h13⟩ := H
  exact ⟨⟨x1, x2, x3, x4, ⟨y1, by rw [fB _ _ (by omega)]; exact y2, by rw [fB _ _ (by omega)]; exact y3, y4⟩, sr_to x6 x3 TE.rfl (fun _ _ _ => rfl) (fB _ _ (by omega)) (fun _ => fB _ _ (by omega)) (fun _ => fB _ _ (by omega)) (fun _ => rfl) (fun v w1 w2 => fM v w1 w2), ⟨by rw [fB _ _ (by omega)]; exact y5, y6⟩, x8⟩, ⟨h2, by rw [fB _ _ (by omega)]; exact h3⟩, h4, dd_to h5 x3 TE.rfl rfl (fun _ _ => rfl) (fun _ _ => rfl) (fun _ _ => rfl) (fun v w1 w2 => fM v w1 w2) (fun q j hq => fB _ _ (by omega)) (fun _ => rfl), ⟨by rw [fB _ _ (by omega)]; exact h6, h7⟩, h10, h13⟩
theorem cr_lnk (hC : CR I B J bs t r) : CR I (lnB B x1 x2 u) J bs t r := CR_B hC (fun j _ _ => lnB_c _ _ (by omega)) (funext fun j => lnB_c _ _ (by omega)) rfl
theorem wg_pre {I1 B1 : iT} {wd1 : Nat} {Γ : Gm} {I' B' : iT} {J' : jT} {l : Nat} (a : cW k I I1) (c : rP h md nest B J B1 J) (hw : wd ≤ wd1) (H : WG k h M n D F I1 B1 J L bs P md nest Γ a6 a8 a0 wd1 b I' B' J' l) : WG k h M n D F I B J L bs P md nest Γ a6 a8 a0 wd b I' B' J' l := by
  obtain ⟨u, L', t', r', md', a6', a8', a0', wd', m, w1, w2, w3, w4, w5, w6, w7, w8, w9, w10⟩ := H
  exact ⟨u, L', t', r', md', a6', a8', a0', wd', m, w1, w2, w3, w4, w5, by omega, w7, a.trans w8, c.trans w9 (Nat.le_refl _) (Nat.le_refl _), w10⟩
/-- the last statement of a P -/
theorem lp_end {R : sc_12actT} {m2 c : Nat} {x4 : Int32} (hx4 : x4 = 115 ∨ x4 = 108 ∨ x4 = 111 ∨ x4 = 110 ∨ x4 = 112) {oc : Option (Int32 × iT)} {or : Option (Int32 × iT × jT)} (ho : ∃ x I' v B' J', oc = some (x, I') ∧ or = some (v, B', J') ∧ ((v = 0 ∧ PL k h (b + 1) I B J I' B' J') ∨ (v = 1 ∧ ∃ l, x = nI (c + l) ∧ WG k h M n D F I B J L bs P md nest (gm S) a6 a8 a0 wd b I' B' J' l))) (hX : X12 h M md x1 x2) (hM : M ≤ 1400 * h + md) : LO k h M n D F I B J L bs P md nest S a6 a8 a0 wd b x1 x2 c oc (or.bind fun q2 => lkR R (mX12_readProcess_6 R (m2 + 1)) q2 x1 x2 x4) := by
  obtain ⟨x, I', v, B', J', e1, e2, ho⟩ := ho
  rcases ho with ⟨rfl, hpl⟩ | ⟨rfl, l, rfl, u, L', t', r', md', a6', a8', a0', wd', m, w1, w2, w3, w4, w5, w6, w7, w8, w9, w10⟩
  · refine ⟨x, I', 0, B', J', e1, ?_, Or.inl ⟨rfl, hpl⟩⟩
    rw [e2, sb]
    unfold lkR
    rw [if_pos rfl]
  · have gl := pgr_lt w7
    have fB : ∀ q i, ¬ (q = 186 ∧ i = 49) → (a_u2 (lnB B' x1 x2 u) 186 49 (hdX x1 u)) q i = lnB B' x1 x2 u q i := fun q i w => a_u2_n _ _ w
    refine ⟨nI (c + l), I', 1, a_u2 (lnB B' x1 x2 u) 186 49 (hdX x1 u), J', e1, ?_, Or.inr ⟨rfl, l, rfl, u, L', t', r', md', a6', a8', a0', wd', m, ?_, ?_, a_u2_s _ _ _ _, ?_, w5, w6, w7, w8, ?_, w10⟩⟩
    · rw [e2, sb, lk_eq hX w3]
      unfold mX12_readProcess_153 mX12_readProcess_193 mX12_readProcess_198 mX12_readProcess_214
      rw [if_neg i10]
      have : ∀ y, mX12_readProcess_6 R (m2 + 1) (lnB B' x1 x2 u) J' (hdX x1 u) y 1 = some (1, a_u2 (lnB B' x1 x2 u) 186 49 (hdX x1 u), J') := by
        intro y
        rw [mX12_readProcess_6, if_neg i10]
      simp only [this]
      rcases hx4 with rfl | rfl | rfl | rfl | rfl <;> rfl
    · exact CR_B (cr_lnk w1) (fun j _ _ => fB _ _ (by omega)) (funext fun j => fB _ _ (by omega)) rfl
    · refine pe_B w2 (fun q i p1 p2 => ?_)
      rw [fB q i (by omega)]
      by_cases w : q = 191
      · exact lnB_v hX q i (by omega)
      · exact lnB_c q i w
    · have hT := w2.2.2.1
      have hS := w2.2.2.2.1
      refine pr_sm hT hS (fun v hv => ⟨hv, ?_, ?_, ?_, ?_, rfl⟩) (fun v hv => hv) (fun v hv => hv) (Nat.le_refl _) w4
      · rw [fB _ _ (by omega), lnB_c _ _ (by omega)]
      · rw [fB _ _ (by omega), lnB_c _ _ (by omega)]
      · rw [fB _ _ (by omega), lnB_c _ _ (by omega)]
      · rw [fB _ _ (by omega), lnB_v hX _ _ (Or.inr (Or.inl hv.1))]
    · refine ⟨fun q i p1 p2 p3 p4 => ?_, w9.2⟩
      rw [fB q i (by omega)]
      have h9 := w9.1 q i p1 p2 p3 p4
      unfold lnB
      by_cases w : x1 = -1
      · rw [if_pos w, if_pos w]; exact h9
      · rw [if_neg w, if_neg w]
        by_cases w2 : q = 191 ∧ i = x2.toNatClampNeg
        · rw [w2.1, w2.2, a_u2_s, a_u2_s]
        · rw [a_u2_n _ _ w2, a_u2_n _ _ w2]; exact h9
end
