/-! ONE PARAM JOINS, in both (pure) -/
def QS (k h nD : Nat) (W : List Ent) (F : fT) (I B : iT) (J : jT) (L : lT) (P md : Nat) (S : List Sl) (a6 a8 a0 : List Int32) (b : Nat) : Prop :=
  BT k h (1400 * h + md) W F I B J L P md ∧ F 134 4 = k ∧ QR k h (1400 * h + md) L I B J S a6 a8 a0 ∧ ((∀ i, i < 9 → ∃ s, s ≤ b ∧ gI a0 i = nI s) ∧ 85 ≤ b ∧ b ≤ 9000) ∧ (L (k + 45)).length = 4 * nD + 4 ∧ nD < 12 ∧ (∀ (i : Nat) (s : Sl), S[i]? = some s → gI (L (k + 45)) (4 * nD + i) = (if s.1 = 2 then nI s.2.2.2.1 else -1) ∧ B 199 (4 * (12 * h + nD) + i) = (if s.1 = 2 then nI s.2.2.1 else -1)) ∧ (∀ i, S.length ≤ i → i < 4 → gI (L (k + 45)) (4 * nD + i) = -1)
/-- what the head of a DEF leaves -/
def HF (k h d md : Nat) (I B : iT) (J : jT) (L : lT) (I' B' : iT) (J' : jT) (L' : lT) : Prop :=
  TE k L L' ∧ (∀ a, ¬ (k + 2 ≤ a ∧ a ≤ k + 12) → a ≠ k + 43 → a ≠ k + 45 → L' a = L a) ∧ (∀ c, c ≠ 6 → ¬ (134 ≤ c ∧ c ≤ 146) → ¬ (k + 2 ≤ c ∧ c ≤ k + 13) → ¬ (k + 43 ≤ c ∧ c ≤ k + 46) → I' c = I c) ∧ (∀ q i, ¬ (q = 186 ∧ ((2 ≤ i ∧ i ≤ 5) ∨ i = 17 ∨ (34 ≤ i ∧ i ≤ 36) ∨ i = 43 ∨ i = 51)) → ¬ (188 ≤ q ∧ q ≤ 191 ∧ 1400 * h + md ≤ i ∧ i < 1400 * h + 1400) → ¬ (q = 203 ∧ i = d) → ¬ (q = 199 ∧ 4 * d ≤ i ∧ i < 4 * d + 4) → ¬ (206 ≤ q ∧ q ≤ 211) → B' q i = B q i) ∧ (∀ q i, ¬ (q = 186 ∧ i = 6) → ¬ (q = 192 ∧ 1400 * h + md ≤ i ∧ i < 1400 * h + 1400) → ¬ (q = 195 ∧ 4 * d ≤ i ∧ i < 4 * d + 4) → ¬ (206 ≤ q ∧ q ≤ 207) → J' q i = J q i) ∧ (∀ f, f < 4 * (d - 12 * h) → gI (L' (k + 45)) f = gI (L (k + 45)) f)
section
variable {k h nD : Nat} {W : List Ent} {F : fT} {I B : iT} {J : jT} {L : lT} {P md b d : Nat} {S : List Sl} {a6 a8 a0 : List Int32}
theorem HF.rfl : HF k h d md I B J L I B J L := ⟨TE.rfl, fun _ _ _ _ => Eq.refl _, fun _ _ _ _ _ => Eq.refl _, fun _ _ _ _ _ _ _ => Eq.refl _, fun _ _ _ _ _ _ => Eq.refl _, fun _ _ => Eq.refl _⟩
theorem HF.trans {md1 : Nat} {I1 B1 I2 B2 : iT} {J1 J2 : jT} {L1 L2 : lT} (a : HF k h d md I B J L I1 B1 J1 L1) (c : HF k h d md1 I1 B1 J1 L1 I2 B2 J2 L2) (hm : md ≤ md1) : HF k h d md I B J L I2 B2 J2 L2 :=
  ⟨a.1.trans c.1, fun x p q r => (c.2.1 x p q r).trans (a.2.1 x p q r), fun x p q r s => (c.2.2.1 x p q r s).trans (a.2.2.1 x p q r s), fun q i p1 p2 p3 p4 p5 => (c.2.2.2.1 q i p1 (fun z => p2 ⟨z.1, z.2.1, Nat.le_trans (Nat.add_le_add_left hm _) z.2.2.1, z.2.2.2⟩) p3 p4 p5).trans (a.2.2.2.1 q i p1 p2 p3 p4 p5), fun q i p1 p2 p3 p4 => (c.2.2.2.2.1 q i p1 (fun z => p2 ⟨z.1, Nat.le_trans (Nat.add_le_add_left hm _) z.2.1, z.2.2⟩) p3 p4).trans (a.2.2.2.2.1 q i p1 p2 p3 p4), fun f w => (c.2.2.2.2.2 f w).trans (a.2.2.2.2.2 f w)⟩
theorem hf_cur {I' B' : iT} {J' : jT} (a : cf I I') (c : rf B J B' J') : HF k h d md I B J L I' B' J' L := ⟨TE.rfl, fun _ _ _ _ => Eq.refl _, fun x p _ _ _ => cf_b a p, fun q i p1 _ _ _ _ => c.1 q i (fun z => p1 ⟨z.1, Or.inl z.2⟩), fun q i p1 _ _ _ => c.2 q i p1, fun _ _ => Eq.refl _⟩
theorem hf_FQ {I' B' : iT} {J' : jT} {L' : lT} (H : HF k h d md I B J L I' B' J' L') : FQ k I I' := fun c w1 w2 w3 => H.2.2.1 c w1 w2 (by omega) (by omega)
theorem hf_RX {I' B' : iT} {J' : jT} {L' : lT} (H : HF k h (12 * h + nD) md I B J L I' B' J' L') (hn : nD < 12) : RX h B J B' J' := by
  intro q i w
  unfold touR at w
  refine ⟨H.2.2.2.1 q i (fun z => w (Or.inl ⟨z.1, by omega⟩)) (fun z => w (Or.inr (Or.inl ⟨z.1, by omega, by omega, z.2.2.2⟩))) (fun z => w (Or.inr (Or.inr (Or.inl ⟨by omega, by omega, by omega⟩)))) (fun z => w (Or.inr (Or.inr (Or.inr (Or.inl ⟨by omega, by omega, by omega⟩))))) (fun z => w (Or.inr (Or.inr (Or.inr (Or.inr (Or.inr z)))))), H.2.2.2.2.1 q i (fun z => w (Or.inl ⟨z.1, by omega⟩)) (fun z => w (Or.inr (Or.inl ⟨by omega, by omega, by omega, z.2.2⟩))) (fun z => w (Or.inr (Or.inr (Or.inr (Or.inl ⟨by omega, by omega, by omega⟩))))) (fun z => w (Or.inr (Or.inr (Or.inr (Or.inr (Or.inr (by omega))))))) ⟩
theorem qs_scp (H : QS k h nD W F I B J L P md S a6 a8 a0 b) : SCP b I := ⟨a6, a8, a0, 0, H.2.2.1.1, H.2.2.1.2.1.1, by omega, H.2.2.2.1.1⟩
theorem qs_cur (H : QS k h nD W F I B J L P md S a6 a8 a0 b) {I' B' : iT} {J' : jT} {P' : Nat} (a : cf I I') (c : rf B J B' J') (hP : P ≤ P') : QS k h nD W F I' B' J' L P' md S a6 a8 a0 b := by
  obtain ⟨h1, h2, h3, h4, h5, h6, h7, h8⟩ := H
  exact ⟨bt_cur h1 a c hP, h2, qr_to h3 h1.2.2.1 TE.rfl (fun x q1 q2 => cf_b a (by omega)) (c.1 _ _ (by omega)) (fun _ => c.1 _ _ (by omega)) (fun _ => c.1 _ _ (by omega)) (fun _ => c.2 _ _ (by omega)) (fun v _ _ => ⟨c.1 _ _ (by omega), c.1 _ _ (by omega), c.1 _ _ (by omega), c.1 _ _ (by omega), c.2 _ _ (by omega)⟩) (Nat.le_refl _), h4, h5, h6, fun i s hs => by rw [c.1 _ _ (by omega)]; exact h7 i s hs, h8⟩
/-- the class's value of a PARAM, the reference's -/
def pvC (s : Sl) : Int32 := if s.1 = 2 then nI s.2.2.2.1 else -1
def pvR (s : Sl) : Int32 := if s.1 = 2 then nI s.2.2.1 else -1
theorem pm_fin {K : iT → fT → Int32 → Int32 → Int32 → Option iT} {K' : iT → jT → Int32 → Int32 → Option (Int32 × iT × jT)} (H : QS k h nD W F I B J L P md S a6 a8 a0 b) (hS : S.length < 4) {s : Sl} (hs : s.1 = 1 ∨ (s.1 = 2 ∧ s.2.2.2.2 ≤ 200 ∧ TR k L B J (fun v => 1400 * h ≤ v ∧ v < 1400 * h + md) s.2.2.2.2 s.2.2.1 s.2.2.2.1 s.2.2.2.2)) (hN : isN s.2.1) (hno : ∀ (i : Nat) (s' : Sl), S[i]? = some s' → s'.2.1 ≠ s.2.1) (e199 : B 199 (4 * (12 * h + nD) + S.length) = pvR s) (x4 : Int32) :
    ∃ I' B' J' a6' a8' a0', mX3_readParams_152 K I F (nI (4 * nD)) (nI S.length) (nI S.length) x4 (nI (cN s.2.1)) (pvC s) = pmS K I' F (nI (4 * nD)) (nI (S.length + 1)) (nI S.length) ∧ mX12_defText_253 K' B J (nI (12 * h + nD)) (nI S.length) (lN (rN s.2.1)) = K' B' J' (nI (12 * h + nD)) (nI (S.length + 1)) ∧ QS k h nD W F I' B' J' (upL L (k + 45) ((L (k + 45)).set (4 * nD + S.length) (pvC s))) P md (S ++ [s]) a6' a8' a0' b ∧ (∀ c, ¬ (135 ≤ c ∧ c ≤ 141) → ¬ (k + 45 ≤ c ∧ c ≤ k + 46) → I' c = I c) ∧ (∀ q i, ¬ (q = 186 ∧ (i = 43 ∨ i = 51)) → q ≠ 208 → q ≠ 209 → B' q i = B q i) ∧ (∀ q i, ¬ (q = 195 ∧ i = 4 * (12 * h + nD) + S.length) → q ≠ 206 → J' q i = J q i) := by
  obtain ⟨h1, h2, h3, h4, h5, h6, h7, h8⟩ := H
  have hk0 := h1.1.1
  have hT := h1.2.2.1
  have hh := h1.2.2.2.2.1.1
  obtain ⟨g1, ⟨y1, y2, y3, y4, y5, y6⟩, g3, g4⟩ := h3
  obtain ⟨I1, a1, a2, a3⟩ := rs_put h1.1 (a := k + 45) (by unfold rowA; omega) (nI (4 * nD + S.length)) (pvC s)
  rw [lput_nI _ (by omega)] at a2
  have hSW1 : SW I1 a6 a8 a0 := g1.keep (fun c q1 q2 => a3 c (by omega) (by omega))
  have e135 : I1 135 3 = nI 0 := by rw [a3 135 (by omega) (by omega)]; exact y1
  obtain ⟨I2, b1, b2, b3⟩ := sw_add hSW1 (lv := 0) e135 (by omega) (m := S.length + 1) y2 (by omega) (nI (cN s.2.1)) (pvC s)
  rw [Nat.zero_mul, Nat.zero_add] at b2
  have i96 : inb (nI (4 * (12 * h + nD) + S.length)) 96 := vp_in_nI (by omega) (by omega)
  have c96 : (nI (4 * (12 * h + nD) + S.length)).toNatClampNeg = 4 * (12 * h + nD) + S.length := nI_clamp (by omega)
  have n0 := newSlot_ok (B := B) (J := a_u2 J 195 (4 * (12 * h + nD) + S.length) (lN (rN s.2.1))) y4 (by omega) (lN (rN s.2.1)) (if s.1 = 1 then 0 else 2) (pvR s)
  have hl6 : a6.length = 765 := g1.2.2.2.1
  have hl8 : a8.length = 765 := g1.2.2.2.2.1
  have hl0 : a0.length = 9 := g1.2.2.2.2.2
  refine ⟨I2, a_u2 (a_u2 (a_u2 (a_u2 B 208 S.length (if s.1 = 1 then 0 else 2)) 209 S.length (pvR s)) 186 43 (nI (S.length + 1))) 186 51 (nI S.length), a_u2 (a_u2 J 195 (4 * (12 * h + nD) + S.length) (lN (rN s.2.1))) 206 S.length (lN (rN s.2.1)), a6.set (S.length + 1) (nI (cN s.2.1)), a8.set (S.length + 1) (pvC s), a0.set 0 (nI (S.length + 1 + 1)), ?_, ?_, ?_, fun c w1 w2 => by rw [b3 c (by omega), a3 c (by omega) (by omega)], fun q i w1 w2 w3 => by rw [a_u2_n _ _ (by omega), a_u2_n _ _ (by omega), a_u2_n _ _ (by omega), a_u2_n _ _ (by omega)], fun q i w1 w2 => by rw [a_u2_n _ _ (by omega), a_u2_n _ _ (by omega)]⟩
  · unfold mX3_readParams_152 pmS
    rw [h2, nI_add, a1, sb, b1, sb]
    simp only [nI_1]
  · unfold mX12_defText_253 mX12_defText_286
    simp only [i4m, c96, e199, if_pos i96, nI_1]
    rcases hs with q | ⟨q, q2, q3⟩
    · have pv : pvR s = -1 := by unfold pvR; rw [if_neg (by omega)]
      rw [if_pos q, pv] at n0
      rw [if_pos q, pv, if_pos rfl, n0, sb]
    · have hu := (tr_u q3).1
      have pv : pvR s = nI s.2.2.1 := by unfold pvR; rw [if_pos q]
      have q1 : ¬ s.1 = 1 := by omega
      rw [if_neg q1, pv] at n0
      rw [if_neg q1, pv, if_neg (show ¬ nI s.2.2.1 = -1 from nIm (by omega)), n0, sb]
  · have fL : ∀ a, a ≠ k + 45 → (upL L (k + 45) ((L (k + 45)).set (4 * nD + S.length) (pvC s))) a = L a := fun a w => upL_n _ _ w
    have fI : ∀ c, ¬ (136 ≤ c ∧ c ≤ 141) → ¬ (k + 45 ≤ c ∧ c ≤ k + 46) → I2 c = I c := fun c w1 w2 => by rw [b3 c (by omega), a3 c (by omega) (by omega)]
    have fB : ∀ q i, ¬ (q = 186 ∧ (i = 43 ∨ i = 51)) → q ≠ 208 → q ≠ 209 → (a_u2 (a_u2 (a_u2 (a_u2 B 208 S.length (if s.1 = 1 then 0 else 2)) 209 S.length (pvR s)) 186 43 (nI (S.length + 1))) 186 51 (nI S.length)) q i = B q i := fun q i w1 w2 w3 => by rw [a_u2_n _ _ (by omega), a_u2_n _ _ (by omega), a_u2_n _ _ (by omega), a_u2_n _ _ (by omega)]
    have fJ : ∀ q i, ¬ (q = 195 ∧ i = 4 * (12 * h + nD) + S.length) → ¬ (q = 206 ∧ i = S.length) → (a_u2 (a_u2 J 195 (4 * (12 * h + nD) + S.length) (lN (rN s.2.1))) 206 S.length (lN (rN s.2.1))) q i = J q i := fun q i w1 w2 => by rw [a_u2_n _ _ w2, a_u2_n _ _ w1]
    have g208 : ∀ i, (a_u2 (a_u2 (a_u2 (a_u2 B 208 S.length (if s.1 = 1 then 0 else 2)) 209 S.length (pvR s)) 186 43 (nI (S.length + 1))) 186 51 (nI S.length)) 208 i = if i = S.length then (if s.1 = 1 then 0 else 2) else B 208 i := fun i => by
      rw [a_u2_n _ _ (by omega), a_u2_n _ _ (by omega), a_u2_n _ _ (by omega)]
      by_cases w : i = S.length
      · rw [w, a_u2_s, if_pos rfl]
      · rw [a_u2_n _ _ (by omega), if_neg w]
    have g209 : ∀ i, (a_u2 (a_u2 (a_u2 (a_u2 B 208 S.length (if s.1 = 1 then 0 else 2)) 209 S.length (pvR s)) 186 43 (nI (S.length + 1))) 186 51 (nI S.length)) 209 i = if i = S.length then pvR s else B 209 i := fun i => by
      rw [a_u2_n _ _ (by omega), a_u2_n _ _ (by omega)]
      by_cases w : i = S.length
      · rw [w, a_u2_s, if_pos rfl]
      · rw [a_u2_n _ _ (by omega), a_u2_n _ _ (by omega), if_neg w]
    have g43 : (a_u2 (a_u2 (a_u2 (a_u2 B 208 S.length (if s.1 = 1 then 0 else 2)) 209 S.length (pvR s)) 186 43 (nI (S.length + 1))) 186 51 (nI S.length)) 186 43 = nI (S.length + 1) := by rw [a_u2_n _ _ (by omega), a_u2_s]
    have g206 : (a_u2 (a_u2 J 195 (4 * (12 * h + nD) + S.length) (lN (rN s.2.1))) 206 S.length (lN (rN s.2.1))) 206 S.length = lN (rN s.2.1) := a_u2_s _ _ _ _
    generalize (a_u2 (a_u2 (a_u2 (a_u2 B 208 S.length (if s.1 = 1 then 0 else 2)) 209 S.length (pvR s)) 186 43 (nI (S.length + 1))) 186 51 (nI S.length)) = B2 at fB g208 g209 g43 ⊢
    generalize (a_u2 (a_u2 J 195 (4 * (12 * h + nD) + S.length) (lN (rN s.2.1))) 206 S.length (lN (rN s.2.1))) = J2 at fJ g206 ⊢
    have g45 : (upL L (k + 45) ((L (k + 45)).set (4 * nD + S.length) (pvC s))) (k + 45) = (L (k + 45)).set (4 * nD + S.length) (pvC s) := upL_s _ _ _
    have hR2 : RS I2 k (upL L (k + 45) ((L (k + 45)).set (4 * nD + S.length) (pvC s))) := rs_keep a2 (fun a ha => by
      unfold rowA at ha
      exact ⟨b3 a (by omega), b3 (a + 1) (by omega)⟩)
    generalize (upL L (k + 45) ((L (k + 45)).set (4 * nD + S.length) (pvC s))) = L2 at hR2 fL g45 ⊢
    have hA : ∀ v, (B2 188 v = B 188 v ∧ B2 189 v = B 189 v ∧ B2 190 v = B 190 v ∧ B2 191 v = B 191 v ∧ J2 192 v = J 192 v) := fun v => ⟨fB _ _ (by omega) (by omega) (by omega), fB _ _ (by omega) (by omega) (by omega), fB _ _ (by omega) (by omega) (by omega), fB _ _ (by omega) (by omega) (by omega), fJ _ _ (by omega) (by omega)⟩
    have hTE : TE k L L2 := TE_eq (fun a w1 w2 => fL a (by omega))
    obtain ⟨q1, q2, q3, q4, ⟨u1, u2, u3, u4, u5⟩, ⟨u6, u7⟩, ⟨u8, u9, u10⟩⟩ := h1
    have hBT : BT k h (1400 * h + md) W F I2 B2 J2 L2 P md := ⟨hR2, q2, tab_eq (fun a w1 w2 => fL a (by omega)) q3, nt_to q4 q3 hTE (fL _ (by omega)) (fL _ (by omega)) (fun v _ _ => hA v) (fB _ _ (by omega) (by omega) (by omega)) (fun i => fJ _ _ (by omega) (by omega)) (fun i => fB _ _ (by omega) (by omega) (by omega)), ⟨u1, by rw [fB _ _ (by omega) (by omega) (by omega)]; exact u2, by rw [fB _ _ (by omega) (by omega) (by omega)]; exact u3, by rw [fB _ _ (by omega) (by omega) (by omega)]; exact u4, u5⟩, ⟨by rw [fL _ (by omega)]; exact u6, by rw [fL _ (by omega)]; exact u7⟩, ⟨by rw [fL _ (by omega)]; exact u8, by rw [fL _ (by omega)]; exact u9, u10⟩⟩
    have hsnoc : ∀ (i : Nat) (s' : Sl), (S ++ [s])[i]? = some s' → (i < S.length ∧ S[i]? = some s') ∨ (i = S.length ∧ s' = s) := by
      intro i s' he
      rcases Nat.lt_or_ge i S.length with x | x
      · rw [List.getElem?_append_left x] at he
        exact Or.inl ⟨x, he⟩
      · rw [List.getElem?_append_right x] at he
        have hi0 : i = S.length := by
          have := (List.getElem?_eq_some_iff.mp he).1
          rw [List.length_singleton] at this
          omega
        subst hi0
        rw [Nat.sub_self] at he
        exact Or.inr ⟨rfl, (Option.some.inj he).symm⟩
    have hlen : (S ++ [s]).length = S.length + 1 := by rw [List.length_append]; rfl
    refine ⟨hBT, h2, ⟨b2, ⟨by rw [fI 135 (by omega) (by omega)]; exact y1, by rw [gI_se (by omega), hlen], by omega, by rw [hlen]; exact g43, by rw [gI_sn (by omega)]; exact y5, by rw [gI_sn (by omega)]; exact y6⟩, fun i s' he => ?_, fun i j s1 s2 e1 e2 n1 n2 en => ?_⟩, ⟨fun i hi => ?_, h4.2⟩, by rw [g45, List.length_set]; exact h5, h6, fun i s' he => ?_, fun i w1 w2 => ?_⟩
    · rcases hsnoc i s' he with ⟨x, he⟩ | ⟨x, rfl⟩
      · obtain ⟨w1, w2, w3, w4, w5, w6, w7⟩ := g3 i s' he
        refine ⟨w1, w2, by rw [gI_sn (by omega)]; exact w3, by rw [gI_sn (by omega)]; exact w4, by rw [fJ _ _ (by omega) (by omega)]; exact w5, by rw [g208, if_neg (by omega)]; exact w6, fun w => ?_⟩
        obtain ⟨v1, v2, v3⟩ := w7 w
        exact ⟨by rw [g209, if_neg (by omega)]; exact v1, v2, tr_to q3 hTE (fun v _ => hA v) (fun v hv => hv) _ _ _ _ _ (Nat.le_refl _) v3⟩
      · subst x
        refine ⟨by rcases hs with w | w <;> omega, hN, by rw [gI_se (by omega)], by rw [gI_se (by omega)]; rfl, g206, by rw [g208, if_pos rfl], fun w => ?_⟩
        rcases hs with z | ⟨z1, z2, z3⟩
        · omega
        · exact ⟨by rw [g209, if_pos rfl]; unfold pvR; rw [if_pos w], z2, tr_to q3 hTE (fun v _ => hA v) (fun v hv => hv) _ _ _ _ _ (Nat.le_refl _) z3⟩
    · rcases hsnoc i s1 e1 with ⟨x, f1⟩ | ⟨x, f1⟩
      · rcases hsnoc j s2 e2 with ⟨x2, f2⟩ | ⟨x2, f2⟩
        · exact g4 i j s1 s2 f1 f2 n1 n2 en
        · exact absurd (by rw [en, f2]) (hno i s1 f1)
      · rcases hsnoc j s2 e2 with ⟨x2, f2⟩ | ⟨x2, f2⟩
        · exact absurd (by rw [← en, f1]) (hno j s2 f2)
        · omega
    · by_cases w : i = 0
      · subst w
        exact ⟨S.length + 1 + 1, by omega, gI_se (by omega) _⟩
      · rw [gI_sn w]
        exact h4.1 i hi
    · rcases hsnoc i s' he with ⟨x, he⟩ | ⟨x, rfl⟩
      · obtain ⟨w1, w2⟩ := h7 i s' he
        exact ⟨by rw [g45, gI_sn (by omega)]; exact w1, by rw [fB _ _ (by omega) (by omega) (by omega)]; exact w2⟩
      · subst x
        exact ⟨by rw [g45, gI_se (by omega)]; rfl, by rw [fB _ _ (by omega) (by omega) (by omega)]; exact e199⟩
    · rw [g45, gI_sn (by omega)]
      exact h8 i (by omega) w2
end
