/-! A WHOLE DEF, in both (pure) -/
section
variable {k h : Nat} {W : List Ent} {D : List Df} {F : fT} {I B : iT} {J : jT} {L : lT} {bs : List Nat} {t : Tok} {r : List Tok} {P md b : Nat} {f p : Int32}
theorem bs_cur (H : BS k h W D F I B J L P md b) {I' B' : iT} {J' : jT} {P' : Nat} (a : cf I I') (c : rf B J B' J') (hP : P ≤ P') : BS k h W D F I' B' J' L P' md b := by
  obtain ⟨h1, h2, h3, h4, h5, h6, ⟨h7, h8, h9⟩, ⟨g1, g2, g3, g4⟩, h11⟩ := H
  have hFR : FRD k h D.length md L L B B' J J' := frd_of h1.2.2.1 h3 TE.rfl (fun _ _ => rfl) (fun v _ => ⟨c.1 _ _ (by omega), c.1 _ _ (by omega), c.1 _ _ (by omega), c.1 _ _ (by omega), c.2 _ _ (by omega)⟩) (fun f _ => ⟨c.1 _ _ (by omega), c.1 _ _ (by omega), c.1 _ _ (by omega), c.1 _ _ (by omega), c.2 _ _ (by omega), fun i _ => c.1 _ _ (by omega)⟩)
  exact ⟨bt_cur h1 a c hP, h2, h3, h4, dd_frd h5 hFR (Nat.le_refl _) rfl (c.1 _ _ (by omega)), dx_to h6 hFR (Nat.le_refl _) (exb_eq rfl rfl), ⟨h7.keep (fun q _ _ => cf_b a (by omega)), h8, h9⟩, ⟨by omega, by omega, by omega, by omega⟩, h11⟩
theorem fm_rfresh (hp : FM k f p I) {a : Nat} (ha : rowA k a) : mX3_readFresh a I 12 = some (0, I) := by
  obtain ⟨v, hv⟩ := fm_find hp ha 0
  unfold mX3_readFresh
  rw [fm_take hp, sb]
  show ((mX4_find a I 0).bind _) = _
  rw [hv, sb, fm_refuse hp, sb, fm_f36 hp ha, ite_self]
theorem pf_dh (hF : F 134 4 = k) (hp : PF k f p b I) (hb : b + 2 ≤ 10000) : PFu k f p (b + 2) I ((mX3_readFresh (k + 33) I 12).bind fun q2 => D0 k q2.2 F q2.1) := by
  have hk := pf_k hp
  rw [fm_rfresh hp.1 (by unfold rowA; omega), sb]
  exact pf_D0 hF hp hb 0
/-- the reference behind def -/
def dfN (B : iT) (J : jT) : Option (Int32 × iT × jT) := if (B 186 3) = 2 then (mX12_findDef B J (J 186 6)).bind fun q19 => if q19 = ((-1)) then if inb (B 186 32) 2 then if (B 205 (B 186 32).toNatClampNeg) = 12 then rBad B J 5 (B 186 4) else if inb (B 186 32) 2 then if inb ((12 * (B 186 32)) + (B 205 (B 186 32).toNatClampNeg)) 24 then (mX12_look0 B (a_u2 J 194 ((12 * (B 186 32)) + (B 205 (B 186 32).toNatClampNeg)).toNatClampNeg (J 186 6))).bind fun q20 => (mX12_need q20.1 q20.2 40).bind fun q21 => if q21.1 = 0 then some (0, q21.2.1, q21.2.2) else mX12_defText_135 LF (a_u2 (a_u2 (a_u2 q21.2.1 186 43 0) 186 44 0) 186 45 0) q21.2.2 ((12 * (B 186 32)) + (B 205 (B 186 32).toNatClampNeg)) 0 else none else none else none else rBad B J 2 (B 186 4) else rBad B J 1 (B 186 4)
theorem dfN_eq (B : iT) (J : jT) : mX12_defText B J = (mX12_needWord B J 101).bind fun q18 => if q18.1 = 0 then some (0, q18.2.1, q18.2.2) else dfN q18.2.1 q18.2.2 := rfl
/-- what a DEF that was read leaves -/
def DOK (k h : Nat) (W : List Ent) (D : List Df) (F : fT) (I B : iT) (J : jT) (bs : List Nat) (P b : Nat) (I' B' : iT) (J' : jT) (t' : Tok) (r' : List Tok) : Prop :=
  ∃ (e : Df) (L' : lT) (md' : Nat), D.length < 12 ∧ CR I' B' J' bs t' r' ∧ BS k h W (D ++ [e]) F I' B' J' L' t'.2.2 md' b ∧ P < t'.2.2 ∧ FQ k I I' ∧ RX h B J B' J' ∧ ((e.2.1.length = 0 ∧ I' 134 6 = -1) ∨ (e.2.1.length ≠ 0 ∧ ∃ p, p ≤ 1000 ∧ I' 134 6 = nI p ∧ B' 203 (12 * h + D.length) = nI p))
/-- the outcome of a DEF -/
def DOO (k h : Nat) (W : List Ent) (D : List Df) (F : fT) (I B : iT) (J : jT) (bs : List Nat) (P b : Nat) (oc : Option iT) (or : Option (Int32 × iT × jT)) : Prop :=
  (∃ I' B' J', oc = some I' ∧ or = some (0, B', J') ∧ PL k h (b + 2) I B J I' B' J') ∨ (∃ I' B' J' t' r', oc = some I' ∧ or = some (1, B', J') ∧ DOK k h W D F I B J bs P b I' B' J' t' r')
/-- behind the ( of the PARAMS -/
theorem df_prm {w : List Nat} {P0 : Nat} {L0 : lT} {I0 B0 : iT} {J0 : jT} {b6 b8 b0 : List Int32} (hw : isN w) (hP0 : P0 < t.2.2)
    (H : BS k h W D F I0 B0 J0 L0 P0 md b) (hl : D.length < 12) (hC : CR I B J bs t r) (hb : b + 2 ≤ 9000)
    (hR : RS I k (upL L0 (k + 45) (L0 (k + 45) ++ [-1, -1, -1, -1]))) (hSW : SW I b6 b8 b0) (w1 : I 135 3 = nI 0) (w2 : gI b0 0 = nI 1) (w3 : gI b6 0 = 0) (w4 : gI b8 0 = -1) (w5 : ∀ i, i < 9 → ∃ s, s ≤ b ∧ gI b0 i = nI s)
    (e6 : (t.1 = 256 → I 134 6 = nI t.2.2) ∧ (t.1 ≠ 256 → I 134 6 = -1)) (e43 : B 186 43 = 0) (e44 : B 186 44 = 0) (e45 : B 186 45 = 0) (e194 : J 194 (12 * h + D.length) = lN (rN w))
    (fq : FQ k I0 I) (rx : RX h B0 J0 B J) (fB : ∀ q i, ¬ (q = 186 ∧ ((2 ≤ i ∧ i ≤ 5) ∨ (43 ≤ i ∧ i ≤ 45))) → B q i = B0 q i) (fJ : ∀ q i, ¬ (q = 186 ∧ i = 6) → ¬ (q = 194 ∧ i = 12 * h + D.length) → J q i = J0 q i) :
    DOO k h W D F I0 B0 J0 bs P0 b ((mX3_readParams_76 I F (nI (4 * D.length)) 0).bind fun q4 => D2 k q4 F (nI (cN w))) (mX12_defText_135 LF B J (nI (12 * h + D.length)) 0) := by
  have hk0 := H.1.1.1
  have hF := H.2.1.1
  obtain ⟨h1, h2, h3, h4, h5, h6, ⟨h7, h8, h9⟩, ⟨g1, g2, g3, g4⟩, ⟨n35, n37, n39, n41, n43, n45⟩⟩ := H
  have hh := h1.2.2.2.2.1
  have hT0 := h1.2.2.1
  have hd := h1.2.2.2.2.2.1
  have hL4 : ∀ a, a ≠ k + 45 → upL L0 (k + 45) (L0 (k + 45) ++ [-1, -1, -1, -1]) a = L0 a := fun a q => upL_n _ _ q
  have h45 : upL L0 (k + 45) (L0 (k + 45) ++ [-1, -1, -1, -1]) (k + 45) = L0 (k + 45) ++ [-1, -1, -1, -1] := upL_s _ _ _
  generalize upL L0 (k + 45) (L0 (k + 45) ++ [-1, -1, -1, -1]) = L4 at hR hL4 h45
  have hQ : ∀ v, (1400 * h ≤ v ∧ v < 1400 * h + md) → (B 188 v = B0 188 v ∧ B 189 v = B0 189 v ∧ B 190 v = B0 190 v ∧ B 191 v = B0 191 v ∧ J 192 v = J0 192 v) := fun v _ => ⟨fB _ _ (by omega), fB _ _ (by omega), fB _ _ (by omega), fB _ _ (by omega), fJ _ _ (by omega) (by omega)⟩
  have hBT : BT k h (1400 * h + md) W F I B J L4 t.2.2 md := by
    obtain ⟨q1, q2, q3, q4, ⟨u1, u2, u3, u4, u5⟩, u6, u7⟩ := h1
    refine ⟨hR, q2, tab_eq (fun a z1 z2 => hL4 a (by omega)) q3, nt_to q4 q3 (TE_eq (fun a z1 z2 => hL4 a (by omega))) (hL4 _ (by omega)) (hL4 _ (by omega)) (fun v z1 z2 => hQ v ⟨z1, z2⟩) (fB _ _ (by omega)) (fun _ => fJ _ _ (by omega) (by omega)) (fun _ => fB _ _ (by omega)), ⟨u1, by rw [fB _ _ (by omega)]; exact u2, by rw [fB _ _ (by omega)]; exact u3, by rw [fB _ _ (by omega)]; exact u4, u5⟩, ?_, ?_⟩
    · rw [hL4 _ (by omega), hL4 _ (by omega)]; exact u6
    · rw [hL4 _ (by omega), hL4 _ (by omega)]
      omega
  have hQS : QS k h D.length W F I B J L4 t.2.2 md [] b6 b8 b0 b := by
    refine ⟨hBT, hF, ⟨hSW, ⟨w1, w2, Nat.zero_le _, e43, w3, w4⟩, fun i s z => (by cases z), fun i j s s' z => (by cases z)⟩, ⟨w5, by omega, by omega⟩, by rw [h45, List.length_append, n45]; rfl, hl, fun i s z => (by cases z), fun i _ z2 => ?_⟩
    rw [h45, show 4 * D.length + i = (L0 (k + 45)).length + i by rw [n45], gI_r]
    have : i = 0 ∨ i = 1 ∨ i = 2 ∨ i = 3 := by omega
    rcases this with rfl | rfl | rfl | rfl <;> rfl
  have h43l : (L4 (k + 43)).length < 12 := by rw [hL4 _ (by omega), n43]; exact hl
  rcases pm_all (e0 := 99994) hC hQS h43l rfl with ⟨I1, B1, J1, a1, a2, a3⟩ | ⟨S', I1, B1, J1, L1, t1, r1, md1, c6, c8, c0, a1, a2, a3, a4, a5, a6, a7, a8, a9, a10, a11⟩
  · left
    obtain ⟨I', d1, d2⟩ := pfu_PL ((PL.pre fq rx a3).mono (c' := b + 2) (by omega) (by omega)) (c' := b + 2) (fun f p hf => pf_D2 (F := F) hf (nI (cN w)))
    exact ⟨I', B1, J1, by rw [a1, sb]; exact d1, a2, d2⟩
  · rw [a1, sb, a2]
    have ⟨x1, x2, x3, x4, x5, x6⟩ := a5
    have hT1 := a4.1.2.2.1
    have hl4 : 12 * h + D.length - 12 * h = D.length := by omega
    have fB1 : ∀ q i, (q = 198 ∨ q = 200 ∨ q = 201 ∨ q = 202 ∨ q = 205 ∨ (q = 199 ∧ i < 4 * (12 * h + D.length)) ∨ (q = 186 ∧ (i = 44 ∨ i = 45))) → B1 q i = B q i := fun q i z => x4 q i (by omega) (by omega) (by omega) (by omega) (by omega)
    have hTE1 : TE k L0 L1 := TE.trans (TE_eq (fun a z1 z2 => hL4 a (by omega))) x1
    have hL1 : ∀ a, ¬ (k + 2 ≤ a ∧ a ≤ k + 12) → a ≠ k + 43 → a ≠ k + 45 → L1 a = L0 a := fun a z1 z2 z3 => by rw [x2 a z1 z2 z3, hL4 a z3]
    have hFR : FRD k h D.length md L0 L1 B0 B1 J0 J1 := by
      refine ⟨⟨hT0, hTE1, h3, fun a z1 z2 => ⟨[], by rw [hL1 a (by omega) (by omega) (by omega), List.append_nil]⟩, ⟨[], by rw [hL1 _ (by omega) (by omega) (by omega), List.append_nil]⟩, by rw [hL1 _ (by omega) (by omega) (by omega)]; exact Nat.le_refl _, by rw [hL1 _ (by omega) (by omega) (by omega)]; exact Nat.le_refl _, fun v hv => ?_, fun κ _ => ?_, fun c _ => ?_⟩, fun f hf => ?_, fun f hf => ?_, fun f hf => ?_⟩
      · obtain ⟨y1, y2, y3, y4, y5⟩ := hQ v hv
        exact ⟨by rw [x4 _ _ (by omega) (by omega) (by omega) (by omega) (by omega)]; exact y1, by rw [x4 _ _ (by omega) (by omega) (by omega) (by omega) (by omega)]; exact y2, by rw [x4 _ _ (by omega) (by omega) (by omega) (by omega) (by omega)]; exact y3, by rw [x4 _ _ (by omega) (by omega) (by omega) (by omega) (by omega)]; exact y4, by rw [x5 _ _ (by omega) (by omega) (by omega) (by omega)]; exact y5⟩
      · rw [hL1 _ (by omega) (by omega) (by omega), hL1 _ (by omega) (by omega) (by omega), hL1 _ (by omega) (by omega) (by omega), hL1 _ (by omega) (by omega) (by omega)]
        exact ⟨rfl, rfl, rfl, rfl⟩
      · rw [hL1 _ (by omega) (by omega) (by omega), hL1 _ (by omega) (by omega) (by omega)]
        exact ⟨rfl, rfl⟩
      · refine ⟨by rw [hL1 _ (by omega) (by omega) (by omega)], by rw [hL1 _ (by omega) (by omega) (by omega)], by rw [hL1 _ (by omega) (by omega) (by omega)], by rw [hL1 _ (by omega) (by omega) (by omega)], ?_⟩
        rw [a6, hL4 _ (by omega), gI_l _ (by omega)]
      · rw [x6 f (by omega), h45, gI_l _ (by omega)]
      · exact ⟨by rw [fB1 _ _ (by omega), fB _ _ (by omega)], by rw [fB1 _ _ (by omega), fB _ _ (by omega)], by rw [fB1 _ _ (by omega), fB _ _ (by omega)], by rw [fB1 _ _ (by omega), fB _ _ (by omega)], by rw [x5 _ _ (by omega) (by omega) (by omega) (by omega), fJ _ _ (by omega) (by omega)], fun i hi => by rw [fB1 _ _ (by omega), fB _ _ (by omega)]⟩
    have hOF : OF k h D F B1 J1 L1 t1.2.2 md1 S'.length := by
      have hP1 : t.2.2 ≤ t1.2.2 ∨ True := Or.inr trivial
      refine ⟨h2.2, ?_, ?_, dd_frd h5 hFR a7 (hL1 _ (by omega) (by omega) (by omega)) (by rw [fB1 _ _ (by omega), fB _ _ (by omega)]), dx_to h6 hFR a7 (exb_eq (hL1 _ (by omega) (by omega) (by omega)) (hL1 _ (by omega) (by omega) (by omega))), ?_, ?_, ⟨by rw [fB1 _ _ (by omega)]; exact e44, by rw [fB1 _ _ (by omega)]; exact e45⟩⟩
      · unfold sumL
        rw [hL1 _ (by omega) (by omega) (by omega), hL1 _ (by omega) (by omega) (by omega), hL1 _ (by omega) (by omega) (by omega), hL1 _ (by omega) (by omega) (by omega), hL1 _ (by omega) (by omega) (by omega)]
        exact h3
      · unfold nodL
        rw [hL1 _ (by omega) (by omega) (by omega), hL1 _ (by omega) (by omega) (by omega), hL1 _ (by omega) (by omega) (by omega), hL1 _ (by omega) (by omega) (by omega), hL1 _ (by omega) (by omega) (by omega), hL1 _ (by omega) (by omega) (by omega)]
        exact h4
      · rw [hL1 _ (by omega) (by omega) (by omega), hL1 _ (by omega) (by omega) (by omega), hL1 _ (by omega) (by omega) (by omega), hL1 _ (by omega) (by omega) (by omega)]
        omega
      · rw [hL1 _ (by omega) (by omega) (by omega), hL1 _ (by omega) (by omega) (by omega), hL1 _ (by omega) (by omega) (by omega), hL1 _ (by omega) (by omega) (by omega), a6, hL4 _ (by omega)]
        exact ⟨n35, n37, n39, n41, by rw [List.length_append, n43]; rfl, gI_la n43 _⟩
    have e194' : J1 194 (12 * h + D.length) = lN (rN w) := by rw [x5 _ _ (by omega) (by omega) (by omega) (by omega)]; exact e194
    have fq1 : FQ k I0 I1 := fq.trans (hf_FQ a5)
    have rx1 : RX h B0 J0 B1 J1 := rx.trans (hf_RX a5 hl)
    rcases df_mid hw hOF a3 a4 e194' with ⟨I', B', J', c1, c2, c3⟩ | ⟨e, I', B', J', L', t', r', md', c1, c2, c3, c4, c5, c6', c7, c8', c9, c10⟩
    · exact Or.inl ⟨I', B', J', c1, c2, (PL.pre fq1 rx1 c3).mono (by omega) (by omega)⟩
    · refine Or.inr ⟨I', B', J', t', r', c1, c2, e, L', md', hl, c3, c4, by omega, fq1.trans c7, rx1.trans c8', ?_⟩
      by_cases z : S'.length = 0
      · exact Or.inl ⟨by omega, by rw [c9, a8]; exact e6.2 (a9 z)⟩
      · obtain ⟨z1, z2⟩ := a10 z
        exact Or.inr ⟨by omega, t.2.2, cr_end hC, by rw [c9, a8]; exact e6.1 z1, by rw [c10]; exact z2⟩
end
