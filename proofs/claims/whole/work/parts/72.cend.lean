/-! THE END OF A CHOICE, in both (pure) -/
def QB (h M mc md : Nat) (bl : List Br) (v : Nat) : Prop := (1400 * h ≤ v ∧ v < M) ∨ (1400 * h + mc < v ∧ v < 1400 * h + md ∧ ∀ e ∈ bl, v ≠ e.1)
def CI (k h M : Nat) (W : List Ent) (F : fT) (I B : iT) (J : jT) (L : lT) (pn pt : List Int32) (P mc cc md op : Nat) (bl : List Br) (w K0 N0 m0 P0 : Nat) : Prop :=
  TS k h M W F I B J L P (cc + psm bl) md (op + 1) ∧ (L 143 = pn ++ bl.map nmB ∧ L 145 = pt ++ bl.map tmB ∧ pt.length = pn.length ∧ pn.length ≤ 6 * op) ∧ (chain B J (B 189 (1400 * h + mc)) bl ∧ bl.Pairwise (fun a b => dlt a.2.1 b.2.1) ∧ (bl.map (fun z => z.1)).Nodup ∧ bl.length ≤ 6) ∧ (mc < md ∧ M ≤ 1400 * h + mc ∧ B 188 (1400 * h + mc) = nI w ∧ B 190 (1400 * h + mc) = -1 ∧ J 192 (1400 * h + mc) = 0) ∧ (∀ e ∈ bl, 1400 * h + mc < e.1 ∧ e.1 < 1400 * h + md ∧ isN e.2.1 ∧ TR k L B J (QB h M mc md bl) e.2.2.2.2 e.2.2.1 e.2.2.2.1 e.2.2.2.2) ∧ ((L (k + 2)).length + P0 + 1 ≤ K0 + P ∧ 2 * (L (k + 10)).length + 2 * bl.length + P0 ≤ 2 * N0 + P ∧ md + P0 ≤ m0 + P ∧ K0 ≤ P0 ∧ 2 * N0 ≤ P0 ∧ m0 ≤ P0)
def CO (k h M : Nat) (W : List Ent) (F : fT) (I B : iT) (J : jT) (L : lT) (pn pt : List Int32) (bs : List Nat) (P mc cc md op K0 N0 m0 P0 : Nat) (oc : Option (Int32 × iT)) (or : Option (Int32 × iT × jT)) : Prop :=
  ∃ x I' v B' J', oc = some (x, I') ∧ or = some (v, B', J') ∧ ((v = 0 ∧ FAIL k h I B J I' B' J') ∨ (v = 1 ∧ ∃ tt p0 L' t' r' md', x = nI tt ∧ CR I' B' J' bs t' r' ∧ TS k h M W F I' B' J' L' t'.2.2 (cc + p0) md' (op + 1) ∧ TE k L L' ∧ (∀ a, ¬ (k + 2 ≤ a ∧ a ≤ k + 12) → a ≠ 143 → a ≠ 145 → L' a = L a) ∧ L' 143 = pn ∧ L' 145 = pt ∧ TR k L' B' J' (fun v => (1400 * h ≤ v ∧ v < M) ∨ (1400 * h + mc ≤ v ∧ v < 1400 * h + md')) (1 + p0) (1400 * h + mc) tt (1 + p0) ∧ B' 186 36 = nI (1400 * h + mc) ∧ md ≤ md' ∧ (L' (k + 2)).length + P0 ≤ K0 + t'.2.2 ∧ 2 * (L' (k + 10)).length + P0 ≤ 2 * N0 + t'.2.2 ∧ md' + P0 ≤ m0 + t'.2.2 ∧ P < t'.2.2 ∧ cT k I I' ∧ rT h mc B J B' J'))
theorem CO.pre {k h M : Nat} {W : List Ent} {F : fT} {I I1 B B1 : iT} {J J1 : jT} {L L1 : lT} {pn pt : List Int32} {bs : List Nat} {P P1 mc cc md md1 op K0 N0 m0 P0 : Nat} {oc : Option (Int32 × iT)} {or : Option (Int32 × iT × jT)} (a : cT k I I1) (b : rT h mc B J B1 J1) (hE : TE k L L1) (hL : ∀ a, ¬ (k + 2 ≤ a ∧ a ≤ k + 12) → a ≠ 143 → a ≠ 145 → L1 a = L a) (hm : md ≤ md1) (hP : P ≤ P1) (H : CO k h M W F I1 B1 J1 L1 pn pt bs P1 mc cc md1 op K0 N0 m0 P0 oc or) : CO k h M W F I B J L pn pt bs P mc cc md op K0 N0 m0 P0 oc or := by
  obtain ⟨x, I', v, B', J', e1, e2, H⟩ := H
  refine ⟨x, I', v, B', J', e1, e2, ?_⟩
  rcases H with ⟨h1, h2⟩ | ⟨h1, tt, p0, L', t', r', md', g1, g2, g3, g4, g5, g6, g7, g8, g9, g10, g11, g12, g13, g14, g15, g16⟩
  · exact Or.inl ⟨h1, h2.pre (cT_FX a) (rT_RX b)⟩
  · exact Or.inr ⟨h1, tt, p0, L', t', r', md', g1, g2, g3, hE.trans g4, fun x q1 q2 q3 => (g5 x q1 q2 q3).trans (hL x q1 q2 q3), g6, g7, g8, g9, by omega, g11, g12, g13, by omega, a.trans g15, b.trans g16 (Nat.le_refl _)⟩
theorem lcut_app (a c : List Int32) (h : a.length < 2 ^ 31) : lcut (a ++ c) (nI a.length) = a := by
  unfold lcut
  rw [if_neg (nI_not0 h), nI_clamp h]
  simp
section
variable {k h M : Nat} {W : List Ent} {F : fT} {I B : iT} {J : jT} {L : lT} {pn pt : List Int32} {bs : List Nat} {t : Tok} {r : List Tok} {mc cc md op : Nat} {bl : List Br} {kd w K0 N0 m0 P0 : Nat}
theorem ce_ok (R : sc_9readChoiceT) (x2 x4 : Int32) (hkw : (kd = 43 ∧ w = 6) ∨ (kd = 38 ∧ w = 7)) (hC : CR I B J bs t r) (H : CI k h M W F I B J L pn pt t.2.2 mc cc md op bl w K0 N0 m0 P0) (h1b : 1 ≤ bl.length) :
    CO k h M W F I B J L pn pt bs t.2.2 mc cc md op K0 N0 m0 P0 (mX9_readChoice_93 R I F (nI kd) x2 (nI pn.length) x4) ((mX12_need (a_u2 B 186 36 (nI (1400 * h + mc))) J 125).bind fun q2 => if q2.1 = 0 ∨ q2.1 = 1 then some (q2.1, q2.2.1, q2.2.2) else none) := by
  obtain ⟨HT, ⟨d1, d2, d3, d4⟩, ⟨c1, c2, c3, c4⟩, ⟨n1, n2, n3, n4, n5⟩, he, ⟨b1, b2, b3, b4, b5, b6⟩⟩ := H
  obtain ⟨h1, h2, h3, h4, ⟨h5, h6, h7, h8, h9⟩, ⟨h10, h11, h12⟩, ⟨h13, h14, h15, h16⟩, h17, h18, h19⟩ := HT
  have hk := h1.1
  have hP := cr_end hC
  have fB : ∀ b i, ¬ (b = 186 ∧ i = 36) → (a_u2 B 186 36 (nI (1400 * h + mc))) b i = B b i := fun b i q => a_u2_n _ _ q
  have hC1 : CR I (a_u2 B 186 36 (nI (1400 * h + mc))) J bs t r := CR_B hC (fun i _ _ => fB _ _ (by omega)) (a_u2_r _ _ (by decide)) rfl
  have rB : rT h mc B J (a_u2 B 186 36 (nI (1400 * h + mc))) J := ⟨fun b i q _ => fB b i (by omega), fun _ _ _ _ => rfl⟩
  rcases jneed hC1 h1 h 125 (by decide) with ⟨q, u, r', I1, B1, J1, k1, k2, k3, k4, k5, k6, k7⟩ | ⟨q, I1, B1, k2, k3, k4⟩
  · have k2' : mX2_want I 125 = some I1 := k2
    have k3' : mX12_need (a_u2 B 186 36 (nI (1400 * h + mc))) J 125 = some (1, B1, J1) := k3
    have hR1 := cf_RS k6 h1
    have htl : tl t.1 = 1 := by rw [q]; decide
    rw [htl] at k5
    have l3 : (L 143).length = pn.length + bl.length := by rw [d1]; simp
    have l5 : (L 145).length = pn.length + bl.length := by rw [d2]; simp; exact d3
    have gN : ∀ i e, bl[i]? = some e → gI (L 143) (pn.length + i) = nmB e ∧ gI (L 145) (pn.length + i) = tmB e := by
      intro i e hi
      constructor
      · rw [d1, gI_r]
        unfold gI
        rw [List.getD_eq_getElem?_getD, List.getElem?_map, hi]; rfl
      · rw [d2, ← d3, gI_r]
        unfold gI
        rw [List.getD_eq_getElem?_getD, List.getElem?_map, hi]; rfl
    have hex : ∀ i, i < bl.length → ∃ e, bl[i]? = some e := fun i hi => ⟨bl[i], List.getElem?_eq_getElem hi⟩
    obtain ⟨tt, f, I2, L1, m1, m2, m3, m4, m5, m6, m7, m8, m9, m10, m11, m12, m13⟩ := mc_ok hR1 h3 (by omega) (kd := nI kd) (by rcases hkw with ⟨q, _⟩ | ⟨q, _⟩ <;> subst q <;> unfold ch <;> decide) (from0 := pn.length) (m := bl.length) l3 l5 (by omega) (by omega) (fun i hi => by
      obtain ⟨e, hi'⟩ := hex i hi
      have := (he e (List.mem_of_getElem? hi')).2.2.2
      exact ⟨e.2.2.2.1, (tr_u this).2.2, (gN i e hi').2⟩)
    have L13 : L1 143 = L 143 := m4.2 143 (by omega)
    have L15 : L1 145 = L 145 := m4.2 145 (by omega)
    obtain ⟨I3, p1, p2, p3⟩ := rs_cut m2 (a := 143) (by unfold rowA; omega) (nI pn.length)
    rw [L13, d1, lcut_app _ _ (by omega)] at p2
    obtain ⟨I4, s1, s2, s3⟩ := rs_cut p2 (a := 145) (by unfold rowA; omega) (nI pn.length)
    rw [upL_n _ _ (by decide), L15, d2, ← d3, lcut_app _ _ (by omega)] at s2
    rw [← d3] at s1
    have eU : ∀ a, a ≠ 143 → a ≠ 145 → upL (upL L1 143 pn) 145 pt a = L1 a := fun a q1 q2 => by rw [upL_n _ _ q2, upL_n _ _ q1]
    have I41 : ∀ b, ¬ (k + 2 ≤ b ∧ b ≤ k + 13) → ¬ (143 ≤ b ∧ b ≤ 146) → I4 b = I1 b := fun b q1 q2 => by rw [s3 b (by omega) (by omega), p3 b (by omega) (by omega), m13 b q1]
    have cTI : cT k I I4 := fun b q1 q2 q3 q4 => by rw [I41 b q3 q4, cf_b k6 q1]
    have rTB : rT h mc B J B1 J1 := rB.trans (rf_rT (md := mc) k7) (Nat.le_refl _)
    have TEL : TE k L (upL (upL L1 143 pn) 145 pt) := fun a q1 q2 => by
      obtain ⟨rr, er⟩ := m4.1 a q1 q2
      exact ⟨rr, by rw [eU a (by omega) (by omega), er]⟩
    have nodeA : ∀ v, v ≠ 1400 * h + mc ∨ True → (B1 188 v = B 188 v ∧ B1 189 v = B 189 v ∧ B1 190 v = B 190 v ∧ B1 191 v = B 191 v ∧ J1 192 v = J 192 v) := fun v _ => ⟨by rw [k7.1 _ _ (by omega), fB _ _ (by omega)], by rw [k7.1 _ _ (by omega), fB _ _ (by omega)], by rw [k7.1 _ _ (by omega), fB _ _ (by omega)], by rw [k7.1 _ _ (by omega), fB _ _ (by omega)], k7.2 _ _ (by omega)⟩
    have sc : ∀ i, ¬ (2 ≤ i ∧ i ≤ 5) → i ≠ 36 → B1 186 i = B 186 i := fun i q1 q2 => by rw [k7.1 _ _ (by omega), fB _ _ (by omega)]
    refine ⟨nI tt, I4, 1, B1, J1, ?_, by rw [k3', sb, if_pos (Or.inr rfl)], Or.inr ⟨rfl, tt, psm bl, upL (upL L1 143 pn) 145 pt, u, r', md, rfl, ?_, ?_, TEL, ?_, ?_, ?_, ?_, ?_, Nat.le_refl _, ?_, ?_, ?_, by omega, cTI, rTB⟩⟩
    · unfold mX9_readChoice_93
      rw [k2', sb, cr_failed k4, sb, if_pos rfl, h2, m1, sb, p1, sb]
      rw [d3] at s1
      rw [s1, sb]
    · exact CR_I k4 (I41 6 (by omega) (by omega)) (I41 9 (by omega) (by omega)) (I41 10 (by omega) (by omega)) (I41 11 (by omega) (by omega))
    · refine ⟨s2, h2, tab_eq (fun a q1 q2 => eU a (by omega) (by omega)) m3, ?_, ⟨h5, by rw [sc _ (by omega) (by omega)]; exact h6, by rw [sc _ (by omega) (by omega)]; exact h7, by rw [sc _ (by omega) (by omega)]; exact h8, h9⟩, ⟨by rw [sc _ (by omega) (by omega)]; exact h10, by rw [I41 142 (by omega) (by omega), k6 _ _ (by omega)]; exact h11, h12⟩, ⟨by rw [sc _ (by omega) (by omega)]; exact h13, h14, ?_, ?_⟩, ?_, ?_, by omega⟩
      · refine nt_to h4 h3 TEL (by rw [eU _ (by omega) (by omega), m4.2 _ (by omega)]) (by rw [eU _ (by omega) (by omega), m4.2 _ (by omega)]) (fun v _ _ => nodeA v (Or.inr trivial)) ?_ (fun i => k7.2 _ _ (by omega)) (fun i => ?_)
        · rw [k7.1 _ _ (by omega), fB _ _ (by omega)]
        · rw [k7.1 _ _ (by omega), fB _ _ (by omega)]
      · rw [upL_s, upL_n _ _ (by decide), upL_s]; exact d3
      · rw [upL_n _ _ (by decide), upL_s]; omega
      · rw [eU _ (by omega) (by omega)]; omega
      · rw [eU _ (by omega) (by omega)]; omega
    · intro a q1 q2 q3
      rw [eU a q2 q3, m4.2 a q1]
    · rw [upL_n _ _ (by decide), upL_s]
    · rw [upL_s]
    · obtain ⟨f2a, f2b, f2c, f2d, f2e⟩ := nodeA (1400 * h + mc) (Or.inr trivial)
      rw [Nat.add_comm 1 (psm bl)]
      refine ⟨by omega, Or.inr ⟨by omega, by omega⟩, by rw [eU _ (by omega) (by omega)]; exact m5, by rw [f2e]; exact n5, Or.inr (Or.inr (Or.inr ⟨kd, w, f, bl, hkw, by rw [eU _ (by omega) (by omega)]; exact m8, by rw [f2a]; exact n3, by rw [f2c]; exact n4, by rw [eU _ (by omega) (by omega)]; exact m9, by rw [eU _ (by omega) (by omega)]; exact m10, h1b, c4, by rw [eU _ (by omega) (by omega)]; exact m11, ?_, c2, by omega, fun i e hi => ?_⟩))⟩
      · rw [f2b]
        exact chain_to _ _ (fun e _ => nodeA e.1 (Or.inr trivial)) c1
      · have hil : i < bl.length := (List.getElem?_eq_some_iff.mp hi).1
        have hem := List.mem_of_getElem? hi
        obtain ⟨x1, x2, x3, x4⟩ := he e hem
        obtain ⟨y1, y2⟩ := m12 i hil
        obtain ⟨z1, z2⟩ := gN i e hi
        have := psm_le bl e hem
        refine ⟨Or.inr ⟨by omega, by omega⟩, x3, by rw [eU _ (by omega) (by omega), y1, z1]; rfl, by rw [eU _ (by omega) (by omega), y2, z2]; rfl, tr_to h3 TEL (fun v _ => nodeA v (Or.inr trivial)) (fun v hv => ?_) _ _ _ _ _ this x4⟩
        rcases hv with hv | hv
        · exact Or.inl hv
        · exact Or.inr ⟨by omega, hv.2.1⟩
    · rw [k7.1 _ _ (by omega), a_u2_s]
    · rw [eU _ (by omega) (by omega)]; omega
    · rw [eU _ (by omega) (by omega)]; omega
    · omega
  · have k2' : mX2_want I 125 = some I1 := k2
    have k3' : mX12_need (a_u2 B 186 36 (nI (1400 * h + mc))) J 125 = some (0, B1, J) := k3
    obtain ⟨x, I', e1, e2⟩ := fmo_FAIL (FAIL.pre FX.rfl (rT_RX rB) k4) (o := mX9_readChoice_93 R I F (nI kd) x2 (nI pn.length) x4) (fun f p hf => by
      unfold mX9_readChoice_93
      rw [k2', sb, fm_failed hf, sb, if_neg i10]
      exact fmo_ret hf _)
    exact ⟨x, I', 0, B1, J, e1, by rw [k3', sb, if_pos (Or.inl rfl)], Or.inl ⟨rfl, e2⟩⟩
end
