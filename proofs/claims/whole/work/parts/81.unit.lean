/-! THE STATE WHILE AN E IS READ; units (pure) -/
def cS (k : Nat) (I I' : iT) : Prop := ∀ b, b ≠ 6 → ¬ (k + 19 ≤ b ∧ b ≤ k + 28) → I' b = I b
theorem cS.rfl {k : Nat} {I : iT} : cS k I I := fun _ _ _ => Eq.refl _
theorem cS.trans {k : Nat} {I I1 I2 : iT} (a : cS k I I1) (b : cS k I1 I2) : cS k I I2 := fun x p q => (b x p q).trans (a x p q)
theorem cS_FX {k : Nat} {I I1 : iT} (a : cS k I I1) : FX k I I1 := fun x p q r => a x p (by omega)
theorem cf_cS {k : Nat} {I I1 : iT} (a : cf I I1) : cS k I I1 := fun x p _ => cf_b a p
def rS (h md : Nat) (B : iT) (J : jT) (B' : iT) (J' : jT) : Prop := (∀ b i, ¬ (b = 186 ∧ ((2 ≤ i ∧ i ≤ 5) ∨ i = 17 ∨ i = 45 ∨ i = 47)) → ¬ (188 ≤ b ∧ b ≤ 191 ∧ 1400 * h + md ≤ i ∧ i < 1400 * h + 1400) → B' b i = B b i) ∧ (∀ b i, ¬ (b = 186 ∧ i = 6) → ¬ (b = 192 ∧ 1400 * h + md ≤ i ∧ i < 1400 * h + 1400) → J' b i = J b i)
theorem rS.rfl {h md : Nat} {B : iT} {J : jT} : rS h md B J B J := ⟨fun _ _ _ _ => Eq.refl _, fun _ _ _ _ => Eq.refl _⟩
theorem rS.trans {h md md1 : Nat} {B B1 B2 : iT} {J J1 J2 : jT} (a : rS h md B J B1 J1) (b : rS h md1 B1 J1 B2 J2) (hm : md ≤ md1) : rS h md B J B2 J2 :=
  ⟨fun x i p q => (b.1 x i p (by omega)).trans (a.1 x i p q), fun x i p q => (b.2 x i p (by omega)).trans (a.2 x i p q)⟩
theorem rS_RX {h md : Nat} {B B1 : iT} {J J1 : jT} (a : rS h md B J B1 J1) : RX h B J B1 J1 := by
  intro b i q
  unfold touR at q
  exact ⟨a.1 b i (by omega) (by omega), a.2 b i (by omega) (by omega)⟩
theorem rf_rS {h md : Nat} {B B1 : iT} {J J1 : jT} (a : rf B J B1 J1) : rS h md B J B1 J1 := ⟨fun b i p _ => a.1 b i (by omega), fun b i p _ => a.2 b i p⟩
theorem sc_rS {h md : Nat} {B : iT} {J : jT} {i : Nat} (hi : i = 45 ∨ i = 47) (v : Int32) : rS h md B J (a_u2 B 186 i v) J := ⟨fun b j p _ => a_u2_n _ _ (by omega), fun _ _ _ _ => Eq.refl _⟩
theorem sr_to {k h M : Nat} {L L' : lT} {I I' B B' : iT} {J J' : jT} {n lv : Nat} {S : List Sl} {a6 a8 a0 : List Int32} (H : SR k h M L I B J n lv S a6 a8 a0) (hT : tabL k L) (hE : TE k L L') (hI : ∀ b, 135 ≤ b → b ≤ 141 → I' b = I b) (h43 : B' 186 43 = B 186 43) (h8 : ∀ i, B' 208 i = B 208 i) (h9 : ∀ i, B' 209 i = B 209 i) (h6 : ∀ i, J' 206 i = J 206 i) (hA : ∀ v, 1400 * h ≤ v → v < M → (B' 188 v = B 188 v ∧ B' 189 v = B 189 v ∧ B' 190 v = B 190 v ∧ B' 191 v = B 191 v ∧ J' 192 v = J 192 v)) : SR k h M L' I' B' J' n lv S a6 a8 a0 := by
  obtain ⟨hW, ⟨g1, g2, g3, g4, g5, g6, g7⟩, hS, hD, h0⟩ := H
  refine ⟨hW.keep hI, ⟨by rw [hI 135 (by omega) (by omega)]; exact g1, g2, g3, g4, g5, g6, by rw [h43]; exact g7⟩, fun i s hs => ?_, hD, h0⟩
  obtain ⟨c1, c2, c3, c4, c5⟩ := hS i s hs
  refine ⟨c1, c2, by rw [h6]; exact c3, fun q => ⟨(c4 q).1, by rw [h8]; exact (c4 q).2⟩, fun q => ?_⟩
  obtain ⟨d1, d2, d3⟩ := c5 q
  exact ⟨by rw [h9]; exact d1, d2, tr_to hT hE (fun v hv => hA v hv.1 hv.2) (fun v hv => hv) _ _ _ _ _ (Nat.le_refl _) d3⟩
def XS (k h M n : Nat) (F : fT) (I B : iT) (J : jT) (L : lT) (P md nest lv : Nat) (S : List Sl) (a6 a8 a0 : List Int32) : Prop :=
  RS I k L ∧ F 147 2 = k + 18 ∧ tabL k L ∧ sumL k L ∧ (h < 2 ∧ B 186 16 = nI (1400 * h) ∧ B 186 17 = nI md ∧ M ≤ 1400 * h + md) ∧ SR k h M L I B J n lv S a6 a8 a0 ∧ (B 186 45 = nI nest ∧ nest ≤ 8) ∧ ((L (k + 19)).length ≤ P ∧ md ≤ P)
section
variable {k h M n : Nat} {F : fT} {I B : iT} {J : jT} {L : lT} {bs : List Nat} {t : Tok} {r : List Tok} {P md nest lv : Nat} {S : List Sl} {a6 a8 a0 : List Int32}
theorem xs_cur (H : XS k h M n F I B J L P md nest lv S a6 a8 a0) {I' B' : iT} {J' : jT} {P' : Nat} (a : cf I I') (b : rf B J B' J') (hP : P ≤ P') : XS k h M n F I' B' J' L P' md nest lv S a6 a8 a0 := by
  obtain ⟨h1, h2, h3, h4, ⟨h5, h6, h7, h8⟩, h9, ⟨h10, h11⟩, h12, h13⟩ := H
  exact ⟨cf_RS a h1, h2, h3, h4, ⟨h5, by rw [b.1 _ _ (by omega)]; exact h6, by rw [b.1 _ _ (by omega)]; exact h7, h8⟩, sr_to h9 h3 TE.rfl (fun c q1 q2 => cf_b a (by omega)) (b.1 _ _ (by omega)) (fun i => b.1 _ _ (by omega)) (fun i => b.1 _ _ (by omega)) (fun i => b.2 _ _ (by omega)) (fun v _ _ => ⟨b.1 _ _ (by omega), b.1 _ _ (by omega), b.1 _ _ (by omega), b.1 _ _ (by omega), b.2 _ _ (by omega)⟩), ⟨by rw [b.1 _ _ (by omega)]; exact h10, h11⟩, by omega, by omega⟩
theorem xs_sc (H : XS k h M n F I B J L P md nest lv S a6 a8 a0) (v : Int32) : XS k h M n F I (a_u2 B 186 47 v) J L P md nest lv S a6 a8 a0 := by
  obtain ⟨h1, h2, h3, h4, ⟨h5, h6, h7, h8⟩, h9, ⟨h10, h11⟩, h12⟩ := H
  exact ⟨h1, h2, h3, h4, ⟨h5, by rw [a_u2_n _ _ (by decide)]; exact h6, by rw [a_u2_n _ _ (by decide)]; exact h7, h8⟩, sr_to h9 h3 TE.rfl (fun _ _ _ => rfl) (a_u2_n _ _ (by decide)) (fun i => a_u2_n _ _ (by omega)) (fun i => a_u2_n _ _ (by omega)) (fun _ => rfl) (fun v _ _ => ⟨a_u2_n _ _ (by omega), a_u2_n _ _ (by omega), a_u2_n _ _ (by omega), a_u2_n _ _ (by omega), rfl⟩), ⟨by rw [a_u2_n _ _ (by decide)]; exact h10, h11⟩, h12⟩
theorem xs_nest (H : XS k h M n F I B J L P md nest lv S a6 a8 a0) {nest' : Nat} (hn : nest' ≤ 8) : XS k h M n F I (a_u2 B 186 45 (nI nest')) J L P md nest' lv S a6 a8 a0 := by
  obtain ⟨h1, h2, h3, h4, ⟨h5, h6, h7, h8⟩, h9, ⟨h10, h11⟩, h12⟩ := H
  exact ⟨h1, h2, h3, h4, ⟨h5, by rw [a_u2_n _ _ (by decide)]; exact h6, by rw [a_u2_n _ _ (by decide)]; exact h7, h8⟩, sr_to h9 h3 TE.rfl (fun _ _ _ => rfl) (a_u2_n _ _ (by decide)) (fun i => a_u2_n _ _ (by omega)) (fun i => a_u2_n _ _ (by omega)) (fun _ => rfl) (fun v _ _ => ⟨a_u2_n _ _ (by omega), a_u2_n _ _ (by omega), a_u2_n _ _ (by omega), a_u2_n _ _ (by omega), rfl⟩), ⟨a_u2_s _ _ _ _, hn⟩, h12⟩
theorem xs_node (H : XS k h M n F I B J L P md nest lv S a6 a8 a0) (hmd : md < 1000) (x1 x2 x3 : Int32) (w : Int64) : ∃ B' J', mX12_node B J x1 x2 x3 w = some (nI (1400 * h + md), B', J') ∧ (∀ P', P ≤ P' → md + 1 ≤ P' → XS k h M n F I B' J' L P' (md + 1) nest lv S a6 a8 a0) ∧ B' 188 (1400 * h + md) = x1 ∧ B' 189 (1400 * h + md) = x2 ∧ B' 190 (1400 * h + md) = x3 ∧ J' 192 (1400 * h + md) = w ∧ rS h md B J B' J' ∧ (∀ b i, ¬ (b = 186 ∧ i = 17) → ¬ (188 ≤ b ∧ b ≤ 191 ∧ i = 1400 * h + md) → B' b i = B b i) ∧ (∀ b i, ¬ (b = 192 ∧ i = 1400 * h + md) → J' b i = J b i) := by
  obtain ⟨h1, h2, h3, h4, ⟨h5, h6, h7, h8⟩, h9, ⟨h10, h11⟩, h12, h13⟩ := H
  obtain ⟨B', J', n1, n2, n3, n4, n5, n6, n7, n8, n9⟩ := node_ok (B := B) (J := J) (bs := 1400 * h) (m := md) h6 h7 (by omega) x1 x2 x3 w
  refine ⟨B', J', n1, fun P' hP hP2 => ⟨h1, h2, h3, h4, ⟨h5, by rw [n8 _ _ (by omega) (by omega)]; exact h6, n2, by omega⟩, ?_, ⟨by rw [n8 _ _ (by omega) (by omega)]; exact h10, h11⟩, by omega, by omega⟩, n3, n4, n5, n7, ⟨fun b i q1 q2 => n8 b i (by omega) (by omega), fun b i q1 q2 => n9 b i (by omega)⟩, n8, n9⟩
  exact sr_to h9 h3 TE.rfl (fun _ _ _ => rfl) (n8 _ _ (by omega) (by omega)) (fun i => n8 _ _ (by omega) (by omega)) (fun i => n8 _ _ (by omega) (by omega)) (fun i => n9 _ _ (by omega)) (fun v q1 q2 => ⟨n8 _ _ (by omega) (by omega), n8 _ _ (by omega) (by omega), n8 _ _ (by omega) (by omega), n8 _ _ (by omega) (by omega), n9 _ _ (by omega)⟩)
/-- the class's rows of Es have grown -/
theorem xs_rows (H : XS k h M n F I B J L P md nest lv S a6 a8 a0) {I' : iT} {L' : lT} (hR : RS I' k L') (hS : sumL k L') (hL : ∀ a, ¬ (k + 19 ≤ a ∧ a ≤ k + 27) → L' a = L a) (hI : ∀ b, ¬ (k + 19 ≤ b ∧ b ≤ k + 28) → I' b = I b) {P' : Nat} (hP : (L' (k + 19)).length ≤ P') (hP2 : P ≤ P') : XS k h M n F I' B J L' P' md nest lv S a6 a8 a0 := by
  obtain ⟨h1, h2, h3, h4, h5, h9, h10, h12, h13⟩ := H
  have hk := h1.1
  exact ⟨hR, h2, tab_eq (fun a q1 q2 => hL a (by omega)) h3, hS, h5, sr_to h9 h3 (TE_eq (fun a q1 q2 => hL a (by omega))) (fun b q1 q2 => hI b (by omega)) rfl (fun _ => rfl) (fun _ => rfl) (fun _ => rfl) (fun _ _ _ => ⟨rfl, rfl, rfl, rfl, rfl⟩), h10, hP, by omega⟩
/-- what an E that was read well leaves -/
def XG (k h M n : Nat) (F : fT) (I B : iT) (J : jT) (L : lT) (bs : List Nat) (P md nest lv : Nat) (S : List Sl) (a6 a8 a0 : List Int32) (ρ : Nat) (I' B' : iT) (J' : jT) (root : Nat) : Prop :=
  ∃ L' t' r' md' e d, CR I' B' J' bs t' r' ∧ XS k h M n F I' B' J' L' t'.2.2 md' nest lv S a6 a8 a0 ∧ root + 1 = (L' (k + 19)).length ∧ ER k n (nsS S) L' B' (fun v => 1400 * h + md ≤ v ∧ v < 1400 * h + md') d e root (L (k + 19)).length ρ ∧ B' 186 47 = nI e ∧ SE k L L' ∧ (∀ a, ¬ (k + 19 ≤ a ∧ a ≤ k + 27) → L' a = L a) ∧ md ≤ md' ∧ (L' (k + 19)).length + P ≤ (L (k + 19)).length + t'.2.2 ∧ md' + P ≤ md + t'.2.2 ∧ P < t'.2.2 ∧ cS k I I' ∧ rS h md B J B' J'
def XO (k h M n : Nat) (F : fT) (I B : iT) (J : jT) (L : lT) (bs : List Nat) (P md nest lv : Nat) (S : List Sl) (a6 a8 a0 : List Int32) (ρ : Nat) (oc : Option (Int32 × iT)) (or : Option (Int32 × iT × jT)) : Prop :=
  ∃ x I' v B' J', oc = some (x, I') ∧ or = some (v, B', J') ∧ ((v = 0 ∧ FAIL k h I B J I' B' J') ∨ (v = 1 ∧ ∃ root, x = nI root ∧ XG k h M n F I B J L bs P md nest lv S a6 a8 a0 ρ I' B' J' root))
/-- a leaf: NUMBER or NAME of a NUMBER -/
theorem xu_leaf (R : sc_7readSumT) (hC : CR I B J bs t r) (H : XS k h M n F I B J L t.2.2 md nest lv S a6 a8 a0) (hn : t.1 ≠ 260) {ρ : Nat} (hρ : 1 ≤ ρ) (x1 : Int32) {kd wc v rv : Nat} (hl : (kd = 257 ∧ wc = 20 ∧ rv = v ∧ v < 10000) ∨ (kd = 256 ∧ wc = 21 ∧ rv = sg n v ∧ v < 85 ∧ nsS S v)) :
    XO k h M n F I B J L bs t.2.2 md nest lv S a6 a8 a0 ρ (mX7_readUnit_93 R I F x1 (nI kd) (nI v)) ((mX12_node B J (nI wc) (nI rv) (-1) 0).bind fun q14 => (mX12_look0 (a_u2 q14.2.1 186 47 q14.1) q14.2.2).bind fun q15 => some (1, q15.1, q15.2)) := by
  obtain ⟨u0, r0, hr0, hk0, hu0⟩ := tkl_more hC.2.2.1 hn
  have hend := tkl_end r0 u0 hk0
  have htl : 1 ≤ tl t.1 := by
    have hw := (cr_wf hC).1
    unfold tl
    rw [if_neg hn]
    by_cases q : t.1 < 300
    · rw [if_pos q]; exact Nat.le_refl _
    · rw [if_neg q]
      have : ∀ x, x < 17 → 1 ≤ (wl.getD x []).length := by decide
      exact this _ (by omega)
  have hP := cr_end hC
  have b1 := H.2.2.2.2.2.2.2.1
  have b2 := H.2.2.2.2.2.2.2.2
  have hk := H.1.1
  have hh := H.2.2.2.2.1.1
  obtain ⟨B1, J1, n1, n2, n3, n4, n5, n6, n7, n8, n9⟩ := xs_node H (by omega) (nI wc) (nI rv) (-1) 0
  have H1 := xs_sc (n2 (t.2.2 + 1) (by omega) (by omega)) (nI (1400 * h + md))
  have hC1 : CR I (a_u2 B1 186 47 (nI (1400 * h + md))) J1 bs t r := CR_B hC (fun i _ _ => by rw [a_u2_n _ _ (by omega), n8 _ _ (by omega) (by omega)]) (funext fun i => by rw [a_u2_n _ _ (by omega), n8 _ _ (by omega) (by omega)]) (n9 _ _ (by omega))
  obtain ⟨u, r', I2, B2, J2, k1, k2, k3, k4, k5, k6, k7⟩ := jadv hC1 hn
  have H2 := xs_cur H1 k6 k7 (P' := u.2.2) (by omega)
  obtain ⟨I3, m1, m2, m3⟩ := leaf_ok H2.1 H2.2.2.2.1 (by omega) (nI kd) (nI v)
  have hF := H.2.1
  have hlen : (adS k L (nI kd) (nI v) (-1) (nI (L (k + 19)).length) (k + 19)).length = (L (k + 19)).length + 1 := by rw [adS_19]; simp
  have hS2 := adS_sumL H2.2.2.2.1 (nI kd) (nI v) (-1) (nI (L (k + 19)).length) (Or.inr ⟨_, by omega, rfl⟩)
  obtain ⟨l1, l2, l3, l4⟩ := H.2.2.2.1
  have nd : ∀ b, 188 ≤ b → b ≤ 190 → B2 b (1400 * h + md) = B1 b (1400 * h + md) := fun b q1 q2 => by rw [k7.1 _ _ (by omega), a_u2_n _ _ (by omega)]
  refine ⟨nI (L (k + 19)).length, I3, 1, B2, J2, ?_, ?_, Or.inr ⟨rfl, (L (k + 19)).length, rfl, adS k L (nI kd) (nI v) (-1) (nI (L (k + 19)).length), u, r', md + 1, 1400 * h + md, 1, ?_, ?_, by rw [hlen], ?_, ?_, adS_SE _ _ _ _, fun a q => adS_n _ _ _ _ (by omega), by omega, by rw [hlen]; omega, by omega, by omega, ?_, ?_⟩⟩
  · unfold mX7_readUnit_93
    rw [k2, sb, hF, m1, sb]
  · rw [n1, sb, k3, sb]
  · exact CR_I k4 (m3 6 (by omega)) (m3 9 (by omega)) (m3 10 (by omega)) (m3 11 (by omega))
  · exact xs_rows H2 m2 hS2 (fun a q => adS_n _ _ _ _ (by omega)) m3 (by rw [hlen]; omega) (Nat.le_refl _)
  · refine ⟨by omega, ⟨by omega, by omega⟩, by rw [hlen]; omega, Nat.le_refl _, ?_, hρ, ?_⟩
    · rw [adS_25, ← l3]; exact gI_e _ _
    · have o1 : gI (adS k L (nI kd) (nI v) (-1) (nI (L (k + 19)).length) (k + 19)) (L (k + 19)).length = nI kd := by rw [adS_19]; exact gI_e _ _
      have o2 : gI (adS k L (nI kd) (nI v) (-1) (nI (L (k + 19)).length) (k + 21)) (L (k + 19)).length = nI v := by rw [adS_21, ← l1]; exact gI_e _ _
      rw [o1, o2, nd _ (by omega) (by omega), nd _ (by omega) (by omega), n3, n4]
      rcases hl with ⟨z1, z2, z3, z4⟩ | ⟨z1, z2, z3, z4⟩
      · exact Or.inl ⟨v, by rw [z2]; rfl, by rw [z3], by rw [z1]; rfl, rfl, rfl, z4⟩
      · exact Or.inr (Or.inl ⟨v, by rw [z2]; rfl, by rw [z3], by rw [z1]; rfl, rfl, rfl, z4⟩)
  · rw [k7.1 _ _ (by omega), a_u2_s]
  · exact (cf_cS k6).trans (fun b q1 q2 => m3 b q2)
  · exact (n7.trans (sc_rS (by omega) _) (Nat.le_refl _)).trans (rf_rS k7) (Nat.le_refl _)
end
