/-! THE STATE OF A P while an if or a case opens: the reference is one level deeper than the class (pure) -/
def PT (k h M n : Nat) (D : List Df) (F : fT) (I B : iT) (J : jT) (L : lT) (P md nest lv : Nat) (S : List Sl) (a6 a8 a0 : List Int32) (wd b z : Nat) : Prop :=
  XS k h M n F I B J L P md nest lv S a6 a8 a0 ∧ (F 134 4 = k ∧ B 186 32 = nI h) ∧ nodL k L ∧ DD k h M L B J D ∧ (B 186 44 = nI wd ∧ I 134 5 = nI wd ∧ wd ≤ 80 ∧ S.length ≤ 5 + wd) ∧ (4 * (L (k + 47)).length ≤ P + z ∧ 2 * (L (k + 59)).length ≤ P ∧ 3 * (L (k + 55)).length ≤ P + 18 * nest) ∧ ((∀ i, i < 9 → ∃ s, s ≤ b ∧ gI a0 i = nI s) ∧ 85 ≤ b ∧ b ≤ 9000)
section
variable {k h M n : Nat} {D : List Df} {F : fT} {I B : iT} {J : jT} {L : lT} {bs : List Nat} {t : Tok} {r : List Tok} {P md nest lv wd b z : Nat} {S : List Sl} {a6 a8 a0 : List Int32}
theorem pt_ps (H : PT k h M n D F I B J L P md nest nest S a6 a8 a0 wd b z) : PS k h M n D F I B J L P md nest S a6 a8 a0 wd b z := H
theorem ps_pt (H : PS k h M n D F I B J L P md nest S a6 a8 a0 wd b z) : PT k h M n D F I B J L P md nest nest S a6 a8 a0 wd b z := H
theorem pt_scp (H : PT k h M n D F I B J L P md nest lv S a6 a8 a0 wd b z) : SCP b I := by
  have hsr := H.1.2.2.2.2.2.1
  exact ⟨a6, a8, a0, lv, hsr.1, hsr.2.1.1, hsr.2.1.2.1, H.2.2.2.2.2.2.1⟩
theorem pt_cur (H : PT k h M n D F I B J L P md nest lv S a6 a8 a0 wd b z) {I' B' : iT} {J' : jT} {P' : Nat} (a : cf I I') (c : rf B J B' J') (hP : P ≤ P') : PT k h M n D F I' B' J' L P' md nest lv S a6 a8 a0 wd b z := by
  obtain ⟨h1, ⟨h2, h3⟩, h4, h5, ⟨h6, h7, h8, h9⟩, ⟨h10, h11, h12⟩, h13⟩ := H
  exact ⟨xs_cur h1 a c hP, ⟨h2, by rw [c.1 _ _ (by omega)]; exact h3⟩, h4, dd_to h5 h1.2.2.1 TE.rfl rfl (fun _ _ => rfl) (fun _ _ => rfl) (fun _ _ => rfl) (fun v _ _ => ⟨c.1 _ _ (by omega), c.1 _ _ (by omega), c.1 _ _ (by omega), c.1 _ _ (by omega), c.2 _ _ (by omega)⟩) (fun q i hq => c.1 _ _ (by omega)) (fun i => c.2 _ _ (by omega)), ⟨by rw [c.1 _ _ (by omega)]; exact h6, by rw [a _ _ (by omega)]; exact h7, h8, h9⟩, ⟨by omega, by omega, by omega⟩, h13⟩
theorem tbad (hC : CR I B J bs t r) (H : PT k h M n D F I B J L P md nest lv S a6 a8 a0 wd b z) {f : Int32} (hn : f ≠ 0) (p : Int32) : ∃ I' B', mX2_refuse I f p = some I' ∧ mX12_bad B f p = some (0, B') ∧ PL k h b I B J I' B' J ∧ (∀ q, q ≠ 6 → I' q = I q) := by
  obtain ⟨I', B', e1, e2, e3, e4⟩ := jbad hC H.1.1 h hn p
  exact ⟨I', B', e1, e2, fail_PL e3 (pt_scp H) (by have := H.2.2.2.2.2.2.2.2; omega), e4⟩
theorem pt_L (H : PT k h M n D F I B J L P md nest lv S a6 a8 a0 wd b z) {I' : iT} {L' : lT} {z' : Nat} (hR : RS I' k L') (hL : ∀ a, ¬ (k + 47 ≤ a ∧ a ≤ k + 59) → L' a = L a) (hI : ∀ q, ¬ (k + 47 ≤ q ∧ q ≤ k + 60) → I' q = I q) (hn : nodL k L') (b1 : 4 * (L' (k + 47)).length ≤ P + z') (b2 : 2 * (L' (k + 59)).length ≤ P) (b3 : 3 * (L' (k + 55)).length ≤ P + 18 * nest) : PT k h M n D F I' B J L' P md nest lv S a6 a8 a0 wd b z' := by
  obtain ⟨⟨x1, x2, x3, x4, x5, x6, x7, x8, x9⟩, h2, h4, h5, ⟨h6, h7, h8, h9⟩, h10, h13⟩ := H
  have hk := x1.1
  have hTE : TE k L L' := TE_eq (fun a q1 q2 => hL a (by omega))
  refine ⟨⟨hR, x2, tab_eq (fun a q1 q2 => hL a (by omega)) x3, ?_, x5, sr_to x6 x3 hTE (fun q q1 q2 => hI q (by omega)) rfl (fun _ => rfl) (fun _ => rfl) (fun _ => rfl) (fun _ _ _ => ⟨rfl, rfl, rfl, rfl, rfl⟩), x7, by rw [hL _ (by omega)]; exact x8, x9⟩, h2, hn, dd_to h5 x3 hTE (hL _ (by omega)) (fun f _ => by rw [hL _ (by omega)]) (fun f _ => by rw [hL _ (by omega)]) (fun f _ => by rw [hL _ (by omega)]) (fun _ _ _ => ⟨rfl, rfl, rfl, rfl, rfl⟩) (fun _ _ _ => rfl) (fun _ => rfl), ⟨h6, by rw [hI 134 (by omega)]; exact h7, h8, h9⟩, ⟨b1, b2, b3⟩, h13⟩
  unfold sumL
  rw [hL _ (by omega), hL _ (by omega), hL _ (by omega), hL _ (by omega), hL _ (by omega)]
  exact x4
theorem pt_put (H : PT k h M n D F I B J L P md nest lv S a6 a8 a0 wd b z) {a : Nat} (ha : a = k + 49 ∨ a = k + 51 ∨ a = k + 53 ∨ a = k + 57) {j : Nat} (hj : j < 2 ^ 31) (v : Int32) : ∃ I', mX4_put a I (nI j) v = some I' ∧ PT k h M n D F I' B J (upL L a ((L a).set j v)) P md nest lv S a6 a8 a0 wd b z ∧ (∀ q, ¬ (k + 47 ≤ q ∧ q ≤ k + 58) → I' q = I q) := by
  obtain ⟨I', e1, e2, e3⟩ := rs_put H.1.1 (a := a) (by unfold rowA; omega) (nI j) v
  rw [lput_nI _ hj] at e2
  have hb := H.2.2.2.2.2.1
  obtain ⟨a1, a2, a3, a4⟩ := H.2.2.1
  have hlen : ∀ c, (upL L a ((L a).set j v) c).length = (L c).length := by
    intro c
    by_cases q : c = a
    · subst q; rw [upL_s, List.length_set]
    · rw [upL_n _ _ q]
  refine ⟨I', e1, pt_L H e2 (fun c q => upL_n _ _ (by omega)) (fun q w => e3 q (by omega) (by omega)) ?_ (by rw [hlen]; exact hb.1) (by rw [hlen]; exact hb.2.1) (by rw [hlen]; exact hb.2.2), fun q w => e3 q (by omega) (by omega)⟩
  unfold nodL
  rw [hlen, hlen, hlen, hlen, hlen, hlen]
  exact ⟨a1, a2, a3, a4⟩
theorem pt_xs {P P' md' : Nat} {I' B' : iT} {J' : jT} {L' : lT} (H : PT k h M n D F I B J L P md nest lv S a6 a8 a0 wd b z) (HX : XS k h M n F I' B' J' L' P' md' nest lv S a6 a8 a0) (hL : ∀ a, ¬ (k + 19 ≤ a ∧ a ≤ k + 27) → L' a = L a) (hP : P ≤ P') (hc : cS k I I') (hr : rS h md B J B' J') : PT k h M n D F I' B' J' L' P' md' nest lv S a6 a8 a0 wd b z := by
  obtain ⟨h1, ⟨h2, h3⟩, ⟨n1, n2, n3, n4⟩, h5, ⟨h6, h7, h8, h9⟩, ⟨h10, h11, h12⟩, h13⟩ := H
  have hk := h1.1.1
  have hM := h1.2.2.2.2.1.2.2.2
  refine ⟨HX, ⟨h2, by rw [hr.1 _ _ (by omega) (by omega)]; exact h3⟩, ?_, dd_to h5 h1.2.2.1 (TE_eq (fun a q1 q2 => hL a (by omega))) (hL _ (by omega)) (fun f _ => by rw [hL _ (by omega)]) (fun f _ => by rw [hL _ (by omega)]) (fun f _ => by rw [hL _ (by omega)]) (fun v q1 q2 => ⟨hr.1 _ _ (by omega) (by omega), hr.1 _ _ (by omega) (by omega), hr.1 _ _ (by omega) (by omega), hr.1 _ _ (by omega) (by omega), hr.2 _ _ (by omega) (by omega)⟩) (fun q i hq => hr.1 _ _ (by omega) (by omega)) (fun i => hr.2 _ _ (by omega) (by omega)), ⟨by rw [hr.1 _ _ (by omega) (by omega)]; exact h6, by rw [hc 134 (by omega) (by omega)]; exact h7, h8, h9⟩, ⟨?_, ?_, ?_⟩, h13⟩
  · unfold nodL
    rw [hL _ (by omega), hL _ (by omega), hL _ (by omega), hL _ (by omega), hL _ (by omega), hL _ (by omega)]
    exact ⟨n1, n2, n3, n4⟩
  · rw [hL _ (by omega)]; omega
  · rw [hL _ (by omega)]; omega
  · rw [hL _ (by omega)]; omega
theorem pt_expr (hC : CR I B J bs t r) (H : PT k h M n D F I B J L t.2.2 md nest lv S a6 a8 a0 wd b z) : ∃ x I' v B' J', mX7_readSum SF I F 0 (nI nest) = some (x, I') ∧ mX12_expression SF B J = some (v, B', J') ∧ ((v = 0 ∧ PL k h b I B J I' B' J') ∨ (v = 1 ∧ ∃ root L' t' r' md' e d, x = nI root ∧ CR I' B' J' bs t' r' ∧ PT k h M n D F I' B' J' L' t'.2.2 md' nest lv S a6 a8 a0 wd b z ∧ ER k n (nsG (gm S)) L' B' (fun v => 1400 * h + md ≤ v ∧ v < 1400 * h + md') d e root (L (k + 19)).length 28 ∧ B' 186 47 = nI e ∧ SE k L L' ∧ (∀ a, ¬ (k + 19 ≤ a ∧ a ≤ k + 27) → L' a = L a) ∧ md ≤ md' ∧ (L' (k + 19)).length + t.2.2 ≤ (L (k + 19)).length + t'.2.2 ∧ md' + t.2.2 ≤ md + t'.2.2 ∧ t.2.2 < t'.2.2 ∧ cS k I I' ∧ rS h md B J B' J')) := by
  obtain ⟨x, I', v, B', J', e1, e2, HO⟩ := x_all hC H.1
  refine ⟨x, I', v, B', J', e1, e2, ?_⟩
  rcases HO with ⟨h1, h2⟩ | ⟨h1, root, h2, L', t', r', md', e, d, g1, g2, g3, g4, g5, g6, g7, g8, g9, g10, g11, g12, g13⟩
  · exact Or.inl ⟨h1, fail_PL h2 (pt_scp H) (by have := H.2.2.2.2.2.2.2.2; omega)⟩
  · exact Or.inr ⟨h1, root, L', t', r', md', e, d, h2, g1, pt_xs H g2 g7 (by omega) g12 g13, er_ns (ns_gm S) _ _ _ _ _ g4, g5, g6, g7, g8, g9, g10, g11, g12, g13⟩
theorem pt_rnode (H : PT k h M n D F I B J L P md nest lv S a6 a8 a0 wd b z) (hmd : md < 1000) (hP : md + 1 ≤ P) (x1 x2 x3 : Int32) (w : Int64) : ∃ B' J', mX12_node B J x1 x2 x3 w = some (nI (1400 * h + md), B', J') ∧ PT k h M n D F I B' J' L P (md + 1) nest lv S a6 a8 a0 wd b z ∧ B' 188 (1400 * h + md) = x1 ∧ B' 189 (1400 * h + md) = x2 ∧ B' 190 (1400 * h + md) = x3 ∧ B' 191 (1400 * h + md) = -1 ∧ J' 192 (1400 * h + md) = w ∧ rS h md B J B' J' ∧ (∀ q i, ¬ (q = 186 ∧ i = 17) → ¬ (188 ≤ q ∧ q ≤ 191 ∧ i = 1400 * h + md) → B' q i = B q i) ∧ (∀ q i, ¬ (q = 192 ∧ i = 1400 * h + md) → J' q i = J q i) := by
  have hh := H.1.2.2.2.2.1
  obtain ⟨B1, J1, n1, n2, n3, n4, n5, n6, n7, n8, n9⟩ := xs_node H.1 hmd x1 x2 x3 w
  obtain ⟨B2, J2, m1, m2, m3, m4, m5, m6, m7, m8, m9⟩ := node_ok (B := B) (J := J) (bs := 1400 * h) (m := md) hh.2.1 hh.2.2.1 (by omega) x1 x2 x3 w
  have e : (nI (1400 * h + md), B1, J1) = (nI (1400 * h + md), B2, J2) := Option.some.inj (n1.symm.trans m1)
  have eB : B1 = B2 := congrArg (fun y : Int32 × iT × jT => y.2.1) e
  refine ⟨B1, J1, n1, pt_xs H (n2 P (Nat.le_refl _) hP) (fun _ _ => rfl) (Nat.le_refl _) cS.rfl n7, n3, n4, n5, by rw [eB]; exact m6, n6, n7, n8, n9⟩
theorem pt_49 (H : PT k h M n D F I B J L P md nest lv S a6 a8 a0 wd b z) (i : Nat) (hi : 46 ≤ i ∧ i ≤ 51 ∧ i ≠ 47) (v : Int32) : PT k h M n D F I (a_u2 B 186 i v) J L P md nest lv S a6 a8 a0 wd b z := by
  obtain ⟨⟨x1, x2, x3, x4, ⟨y1, y2, y3, y4⟩, x6, ⟨y5, y6⟩, x8⟩, ⟨h2, h3⟩, h4, h5, ⟨h6, h7⟩, h10, h13⟩ := H
  have fB : ∀ q j, ¬ (q = 186 ∧ j = i) → (a_u2 B 186 i v) q j = B q j := fun q j w => a_u2_n _ _ w
  exact ⟨⟨x1, x2, x3, x4, ⟨y1, by rw [fB _ _ (by omega)]; exact y2, by rw [fB _ _ (by omega)]; exact y3, y4⟩, sr_to x6 x3 TE.rfl (fun _ _ _ => rfl) (fB _ _ (by omega)) (fun _ => fB _ _ (by omega)) (fun _ => fB _ _ (by omega)) (fun _ => rfl) (fun _ _ _ => ⟨fB _ _ (by omega), fB _ _ (by omega), fB _ _ (by omega), fB _ _ (by omega), rfl⟩), ⟨by rw [fB _ _ (by omega)]; exact y5, y6⟩, x8⟩, ⟨h2, by rw [fB _ _ (by omega)]; exact h3⟩, h4, dd_to h5 x3 TE.rfl rfl (fun _ _ => rfl) (fun _ _ => rfl) (fun _ _ => rfl) (fun _ _ _ => ⟨fB _ _ (by omega), fB _ _ (by omega), fB _ _ (by omega), fB _ _ (by omega), rfl⟩) (fun q j hq => fB _ _ (by omega)) (fun _ => rfl), ⟨by rw [fB _ _ (by omega)]; exact h6, h7⟩, h10, h13⟩
theorem pt_z (H : PT k h M n D F I B J L P md nest lv S a6 a8 a0 wd b z) {z' : Nat} (h4 : 4 * (L (k + 47)).length ≤ P + z') : PT k h M n D F I B J L P md nest lv S a6 a8 a0 wd b z' := by
  obtain ⟨h1, h2, h3, h5, h6, ⟨h7, h8, h9⟩, h10⟩ := H
  exact ⟨h1, h2, h3, h5, h6, ⟨h4, h8, h9⟩, h10⟩
/-- the reference opens -/
theorem pt_open (H : PS k h M n D F I B J L P md nest S a6 a8 a0 wd b z) (hn : nest < 8) : PT k h M n D F I (a_u2 B 186 45 (nI (nest + 1))) J L P md (nest + 1) nest S a6 a8 a0 wd b z := by
  obtain ⟨⟨x1, x2, x3, x4, ⟨y1, y2, y3, y4⟩, x6, ⟨y5, y6⟩, x8⟩, ⟨h2, h3⟩, h4, h5, ⟨h6, h7⟩, h10, h13⟩ := H
  have fB : ∀ q j, ¬ (q = 186 ∧ j = 45) → (a_u2 B 186 45 (nI (nest + 1))) q j = B q j := fun q j w => a_u2_n _ _ w
  exact ⟨⟨x1, x2, x3, x4, ⟨y1, by rw [fB _ _ (by omega)]; exact y2, by rw [fB _ _ (by omega)]; exact y3, y4⟩, sr_to x6 x3 TE.rfl (fun _ _ _ => rfl) (fB _ _ (by omega)) (fun _ => fB _ _ (by omega)) (fun _ => fB _ _ (by omega)) (fun _ => rfl) (fun _ _ _ => ⟨fB _ _ (by omega), fB _ _ (by omega), fB _ _ (by omega), fB _ _ (by omega), rfl⟩), ⟨a_u2_s _ _ _ _, by omega⟩, x8⟩, ⟨h2, by rw [fB _ _ (by omega)]; exact h3⟩, h4, dd_to h5 x3 TE.rfl rfl (fun _ _ => rfl) (fun _ _ => rfl) (fun _ _ => rfl) (fun _ _ _ => ⟨fB _ _ (by omega), fB _ _ (by omega), fB _ _ (by omega), fB _ _ (by omega), rfl⟩) (fun q j hq => fB _ _ (by omega)) (fun _ => rfl), ⟨by rw [fB _ _ (by omega)]; exact h6, h7⟩, ⟨h10.1, h10.2.1, by omega⟩, h13⟩
/-- places and slots change -/
theorem pt_sr (H : PT k h M n D F I B J L P md nest lv S a6 a8 a0 wd b z) {I' B' : iT} {J' : jT} {S' : List Sl} {b6 b8 b0 : List Int32} {lv' : Nat} (HS : SR k h M L I' B' J' n lv' S' b6 b8 b0) (hI : ∀ q, ¬ (135 ≤ q ∧ q ≤ 141) → I' q = I q) (hB : ∀ q j, ¬ (q = 186 ∧ j = 43) → ¬ (208 ≤ q ∧ q ≤ 211) → B' q j = B q j) (hJ : ∀ q j, q ≠ 206 → q ≠ 207 → J' q j = J q j) (hl : S'.length ≤ 5 + wd) (h0 : ∀ i, i < 9 → ∃ s, s ≤ b ∧ gI b0 i = nI s) : PT k h M n D F I' B' J' L P md nest lv' S' b6 b8 b0 wd b z := by
  obtain ⟨⟨x1, x2, x3, x4, ⟨y1, y2, y3, y4⟩, x6, ⟨y5, y6⟩, x8⟩, ⟨h2, h3⟩, h4, h5, ⟨h6, h7, h8, h9⟩, h10, h13⟩ := H
  have hk := x1.1
  have hR : RS I' k L := rs_keep x1 (fun a ha => by
    unfold rowA at ha
    exact ⟨hI a (by omega), hI (a + 1) (by omega)⟩)
  exact ⟨⟨hR, x2, x3, x4, ⟨y1, by rw [hB _ _ (by omega) (by omega)]; exact y2, by rw [hB _ _ (by omega) (by omega)]; exact y3, y4⟩, HS, ⟨by rw [hB _ _ (by omega) (by omega)]; exact y5, y6⟩, x8⟩, ⟨h2, by rw [hB _ _ (by omega) (by omega)]; exact h3⟩, h4, dd_to h5 x3 TE.rfl rfl (fun _ _ => rfl) (fun _ _ => rfl) (fun _ _ => rfl) (fun v _ _ => ⟨hB _ _ (by omega) (by omega), hB _ _ (by omega) (by omega), hB _ _ (by omega) (by omega), hB _ _ (by omega) (by omega), hJ _ _ (by omega) (by omega)⟩) (fun q j hq => hB _ _ (by omega) (by omega)) (fun j => hJ _ _ (by omega) (by omega)), ⟨by rw [hB _ _ (by omega) (by omega)]; exact h6, by rw [hI 134 (by omega)]; exact h7, h8, hl⟩, h10, h0, h13.2⟩
/-- the reference saves -/
theorem pt_save (H : PT k h M n D F I B J L P md nest lv S a6 a8 a0 wd b z) : ∃ B' J', mX12_save B J (nI nest) = some (B', J') ∧ PT k h M n D F I B' J' L P md nest lv S a6 a8 a0 wd b z ∧ SV B' J' n nest S ∧ (∀ c i, ¬ ((c = 210 ∨ c = 211) ∧ 128 * nest ≤ i ∧ i < 128 * nest + 128) → B' c i = B c i) ∧ (∀ c i, ¬ (c = 207 ∧ 128 * nest ≤ i ∧ i < 128 * nest + 128) → J' c i = J c i) := by
  obtain ⟨B', J', e1, e2, e3, e4, e5⟩ := sr_save H.1.2.2.2.2.2.1 H.1.2.2.1 (deep := nest) H.1.2.2.2.2.2.2.1.2
  exact ⟨B', J', e1, pt_sr H e2 (fun _ _ => rfl) (fun q j w1 w2 => e4 q j (by omega)) (fun q j w1 w2 => e5 q j (by omega)) H.2.2.2.2.1.2.2.2 H.2.2.2.2.2.2.1, e3, e4, e5⟩
/-- the class enters -/
theorem pt_enter (H : PT k h M n D F I B J L P md (nest + 1) nest S a6 a8 a0 wd b z) : ∃ I' b6 b8, mX5_enter I = some I' ∧ PS k h M n D F I' B J L P md (nest + 1) S b6 b8 (a0.set (nest + 1) (nI S.length)) wd b z ∧ LK (nest + 1) a6 a8 a0 b6 b8 (a0.set (nest + 1) (nI S.length)) ∧ (∀ q, ¬ (135 ≤ q ∧ q ≤ 141) → I' q = I q) := by
  have hn := H.1.2.2.2.2.2.2.1.2
  obtain ⟨I', b6, b8, e1, e2, e3, e4⟩ := sr_enter H.1.2.2.2.2.2.1 H.1.2.2.1 (by omega)
  have hb := H.2.2.2.2.2.2
  have hsr := H.1.2.2.2.2.2.1
  refine ⟨I', b6, b8, e1, pt_sr H e2 e4 (fun _ _ _ _ => rfl) (fun _ _ _ _ => rfl) H.2.2.2.2.1.2.2.2 (fun i hi => ?_), ⟨e3, fun j hj => by rw [gI_sn (by omega)]⟩, e4⟩
  by_cases q : i = nest + 1
  · subst q
    exact ⟨S.length, by have := hsr.2.1.2.2.2.2.2.1; omega, gI_se (by rw [hsr.1.2.2.2.2.2]; omega) _⟩
  · rw [gI_sn q]
    exact hb.1 i hi
end
/-- between two Ps of an if or a case: the reference's slots are not of interest -/
def PU (k h M n : Nat) (D : List Df) (F : fT) (I B : iT) (J : jT) (L : lT) (P md nest lv : Nat) (S : List Sl) (a6 a8 a0 : List Int32) (wd b : Nat) : Prop :=
  RS I k L ∧ (F 147 2 = k + 18 ∧ F 134 4 = k) ∧ tabL k L ∧ sumL k L ∧ nodL k L ∧ DD k h M L B J D ∧ (h < 2 ∧ B 186 16 = nI (1400 * h) ∧ B 186 17 = nI md ∧ M ≤ 1400 * h + md ∧ B 186 32 = nI h) ∧ (CP I lv S a6 a8 a0 ∧ lv ≤ 8) ∧ (B 186 45 = nI nest ∧ nest ≤ 8) ∧ (B 186 44 = nI wd ∧ I 134 5 = nI wd ∧ wd ≤ 80 ∧ S.length ≤ 5 + wd) ∧ ((L (k + 19)).length ≤ P ∧ md ≤ P ∧ 4 * (L (k + 47)).length ≤ P ∧ 2 * (L (k + 59)).length ≤ P ∧ 3 * (L (k + 55)).length ≤ P + 18 * nest) ∧ ((∀ i, i < 9 → ∃ s, s ≤ b ∧ gI a0 i = nI s) ∧ 85 ≤ b ∧ b ≤ 9000)
section
variable {k h M n : Nat} {D : List Df} {F : fT} {I B : iT} {J : jT} {L : lT} {bs : List Nat} {t : Tok} {r : List Tok} {P md nest lv wd b z : Nat} {S : List Sl} {a6 a8 a0 : List Int32}
theorem CP.keep {I' : iT} (H : CP I lv S a6 a8 a0) (hf : ∀ q, 135 ≤ q → q ≤ 141 → I' q = I q) : CP I' lv S a6 a8 a0 := by
  obtain ⟨h1, h2, h3, h4⟩ := H
  exact ⟨h1.keep hf, by rw [hf 135 (by omega) (by omega)]; exact h2, h3, h4⟩
theorem pu_scp (H : PU k h M n D F I B J L P md nest lv S a6 a8 a0 wd b) : SCP b I := ⟨a6, a8, a0, lv, H.2.2.2.2.2.2.2.1.1.1, H.2.2.2.2.2.2.2.1.1.2.1, H.2.2.2.2.2.2.2.1.2, H.2.2.2.2.2.2.2.2.2.2.2.1⟩
theorem pu_cur (H : PU k h M n D F I B J L P md nest lv S a6 a8 a0 wd b) {I' B' : iT} {J' : jT} {P' : Nat} (a : cf I I') (c : rf B J B' J') (hP : P ≤ P') : PU k h M n D F I' B' J' L P' md nest lv S a6 a8 a0 wd b := by
  obtain ⟨x1, x2, x3, x4, x5, x6, ⟨y1, y2, y3, y4, y5⟩, ⟨y6, y7⟩, ⟨y8, y9⟩, ⟨w1, w2, w3, w4⟩, ⟨v1, v2, v3, v4, v5⟩, x12⟩ := H
  exact ⟨cf_RS a x1, x2, x3, x4, x5, dd_to x6 x3 TE.rfl rfl (fun _ _ => rfl) (fun _ _ => rfl) (fun _ _ => rfl) (fun v _ _ => ⟨c.1 _ _ (by omega), c.1 _ _ (by omega), c.1 _ _ (by omega), c.1 _ _ (by omega), c.2 _ _ (by omega)⟩) (fun q i hq => c.1 _ _ (by omega)) (fun i => c.2 _ _ (by omega)), ⟨y1, by rw [c.1 _ _ (by omega)]; exact y2, by rw [c.1 _ _ (by omega)]; exact y3, y4, by rw [c.1 _ _ (by omega)]; exact y5⟩, ⟨y6.keep (fun q q1 q2 => cf_b a (by omega)), y7⟩, ⟨by rw [c.1 _ _ (by omega)]; exact y8, y9⟩, ⟨by rw [c.1 _ _ (by omega)]; exact w1, by rw [a _ _ (by omega)]; exact w2, w3, w4⟩, ⟨by omega, by omega, by omega, by omega, by omega⟩, x12⟩
theorem pu_L (H : PU k h M n D F I B J L P md nest lv S a6 a8 a0 wd b) {I' : iT} {L' : lT} (hR : RS I' k L') (hL : ∀ a, ¬ (k + 47 ≤ a ∧ a ≤ k + 59) → L' a = L a) (hI : ∀ q, ¬ (k + 47 ≤ q ∧ q ≤ k + 60) → I' q = I q) (hn : nodL k L') (b1 : 4 * (L' (k + 47)).length ≤ P) (b2 : 2 * (L' (k + 59)).length ≤ P) (b3 : 3 * (L' (k + 55)).length ≤ P + 18 * nest) : PU k h M n D F I' B J L' P md nest lv S a6 a8 a0 wd b := by
  obtain ⟨x1, x2, x3, x4, x5, x6, x7, ⟨y6, y7⟩, x9, ⟨w1, w2, w3, w4⟩, ⟨v1, v2, v3, v4, v5⟩, x12⟩ := H
  have hk := x1.1
  have hTE : TE k L L' := TE_eq (fun a q1 q2 => hL a (by omega))
  refine ⟨hR, x2, tab_eq (fun a q1 q2 => hL a (by omega)) x3, ?_, hn, dd_to x6 x3 hTE (hL _ (by omega)) (fun f _ => by rw [hL _ (by omega)]) (fun f _ => by rw [hL _ (by omega)]) (fun f _ => by rw [hL _ (by omega)]) (fun _ _ _ => ⟨rfl, rfl, rfl, rfl, rfl⟩) (fun _ _ _ => rfl) (fun _ => rfl), x7, ⟨y6.keep (fun q q1 q2 => hI q (by omega)), y7⟩, x9, ⟨w1, by rw [hI 134 (by omega)]; exact w2, w3, w4⟩, ⟨by rw [hL _ (by omega)]; exact v1, v2, b1, b2, b3⟩, x12⟩
  unfold sumL
  rw [hL _ (by omega), hL _ (by omega), hL _ (by omega), hL _ (by omega), hL _ (by omega)]
  exact x4
theorem pu_put (H : PU k h M n D F I B J L P md nest lv S a6 a8 a0 wd b) {a : Nat} (ha : a = k + 49 ∨ a = k + 51 ∨ a = k + 53 ∨ a = k + 57) {j : Nat} (hj : j < 2 ^ 31) (v : Int32) : ∃ I', mX4_put a I (nI j) v = some I' ∧ PU k h M n D F I' B J (upL L a ((L a).set j v)) P md nest lv S a6 a8 a0 wd b ∧ (∀ q, ¬ (k + 47 ≤ q ∧ q ≤ k + 58) → I' q = I q) := by
  obtain ⟨I', e1, e2, e3⟩ := rs_put H.1 (a := a) (by unfold rowA; omega) (nI j) v
  rw [lput_nI _ hj] at e2
  have hb := H.2.2.2.2.2.2.2.2.2.2.1
  obtain ⟨a1, a2, a3, a4⟩ := H.2.2.2.2.1
  have hlen : ∀ c, (upL L a ((L a).set j v) c).length = (L c).length := by
    intro c
    by_cases q : c = a
    · subst q; rw [upL_s, List.length_set]
    · rw [upL_n _ _ q]
  refine ⟨I', e1, pu_L H e2 (fun c q => upL_n _ _ (by omega)) (fun q w => e3 q (by omega) (by omega)) ?_ (by rw [hlen]; exact hb.2.2.1) (by rw [hlen]; exact hb.2.2.2.1) (by rw [hlen]; exact hb.2.2.2.2), fun q w => e3 q (by omega) (by omega)⟩
  unfold nodL
  rw [hlen, hlen, hlen, hlen, hlen, hlen]
  exact ⟨a1, a2, a3, a4⟩
/-- the reference's nodes change behind M, its scalars too -/
theorem pu_B (H : PU k h M n D F I B J L P md nest lv S a6 a8 a0 wd b) {B' : iT} {J' : jT} {md' : Nat} (hB : ∀ q i, ¬ (q = 186 ∧ (i = 17 ∨ (46 ≤ i ∧ i ≤ 51) ∨ i = 43)) → ¬ (188 ≤ q ∧ q ≤ 191 ∧ M ≤ i) → B' q i = B q i) (hJ : ∀ q i, ¬ (q = 192 ∧ M ≤ i) → J' q i = J q i) (h17 : B' 186 17 = nI md') (hm : md ≤ md') (hP : md' ≤ P) : PU k h M n D F I B' J' L P md' nest lv S a6 a8 a0 wd b := by
  obtain ⟨x1, x2, x3, x4, x5, x6, ⟨y1, y2, y3, y4, y5⟩, x8, ⟨y8, y9⟩, ⟨w1, w2, w3, w4⟩, ⟨v1, v2, v3, v4, v5⟩, x12⟩ := H
  exact ⟨x1, x2, x3, x4, x5, dd_to x6 x3 TE.rfl rfl (fun _ _ => rfl) (fun _ _ => rfl) (fun _ _ => rfl) (fun v _ _ => ⟨hB _ _ (by omega) (by omega), hB _ _ (by omega) (by omega), hB _ _ (by omega) (by omega), hB _ _ (by omega) (by omega), hJ _ _ (by omega)⟩) (fun q i hq => hB _ _ (by omega) (by omega)) (fun i => hJ _ _ (by omega)), ⟨y1, by rw [hB _ _ (by omega) (by omega)]; exact y2, h17, by omega, by rw [hB _ _ (by omega) (by omega)]; exact y5⟩, x8, ⟨by rw [hB _ _ (by omega) (by omega)]; exact y8, y9⟩, ⟨by rw [hB _ _ (by omega) (by omega)]; exact w1, w2, w3, w4⟩, ⟨v1, hP, v3, v4, v5⟩, x12⟩
theorem pu_rnode (H : PU k h M n D F I B J L P md nest lv S a6 a8 a0 wd b) (hmd : md < 1000) (hP : md + 1 ≤ P) (x1 x2 x3 : Int32) (w : Int64) : ∃ B' J', mX12_node B J x1 x2 x3 w = some (nI (1400 * h + md), B', J') ∧ PU k h M n D F I B' J' L P (md + 1) nest lv S a6 a8 a0 wd b ∧ B' 188 (1400 * h + md) = x1 ∧ B' 189 (1400 * h + md) = x2 ∧ B' 190 (1400 * h + md) = x3 ∧ B' 191 (1400 * h + md) = -1 ∧ J' 192 (1400 * h + md) = w ∧ rS h md B J B' J' ∧ (∀ q i, ¬ (q = 186 ∧ i = 17) → ¬ (188 ≤ q ∧ q ≤ 191 ∧ i = 1400 * h + md) → B' q i = B q i) ∧ (∀ q i, ¬ (q = 192 ∧ i = 1400 * h + md) → J' q i = J q i) := by
  have hh := H.2.2.2.2.2.2.1
  obtain ⟨B2, J2, m1, m2, m3, m4, m5, m6, m7, m8, m9⟩ := node_ok (B := B) (J := J) (bs := 1400 * h) (m := md) hh.2.1 hh.2.2.1 (by omega) x1 x2 x3 w
  exact ⟨B2, J2, m1, pu_B H (fun q i w1 w2 => m8 q i (by omega) (by omega)) (fun q i w1 => m9 q i (by omega)) m2 (by omega) hP, m3, m4, m5, m6, m7, ⟨fun q i w1 w2 => m8 q i (by omega) (by omega), fun q i w1 w2 => m9 q i (by omega)⟩, m8, m9⟩
theorem lvl_nn : ∀ i, i < 9 → ¬ nI i < 0 := by decide
/-- the class leaves a level -/
theorem pe_leave {b6 b8 b0 : List Int32} {I0 : iT} (H : PE k h M n D F I B J L P md (nest + 1) b6 b8 b0 wd b) (hcp : CP I0 nest S a6 a8 a0) (hS : S.length ≤ 85 ∧ S.length ≤ 5 + wd) (hlk : LK (nest + 1) a6 a8 a0 b6 b8 b0) : ∃ I', mX5_leave I = some I' ∧ PU k h M n D F I' B J L P md (nest + 1) nest S b6 b8 b0 wd b ∧ (∀ q, q ≠ 135 → I' q = I q) := by
  obtain ⟨x1, x2, x3, x4, x5, x6, x7, ⟨y6, y7⟩, ⟨y8, y9⟩, ⟨w1, w2, w3⟩, x11, x12⟩ := H
  have hk := x1.1
  have e : (if ((I 135 3) - 1) < 0 then 0 else ((I 135 3) - 1)) = nI nest := by
    have e1 : I 135 3 - 1 = nI nest := by rw [y7, nI_pred]
    rw [e1, if_neg (lvl_nn nest (by omega))]
  have hI : ∀ q, q ≠ 135 → (a_u2 I 135 3 (nI nest)) q = I q := fun q w => funext fun i => a_u2_n _ _ (by omega)
  refine ⟨a_u2 I 135 3 (nI nest), ?_, ⟨rs_keep x1 (fun a ha => by unfold rowA at ha; exact ⟨hI a (by omega), hI (a + 1) (by omega)⟩), x2, x3, x4, x5, x6, x7, ⟨⟨⟨y6.1.keep (hI _ (by omega)) (hI _ (by omega)), y6.2.1.keep (hI _ (by omega)) (hI _ (by omega)), y6.2.2.1.keep (hI _ (by omega)) (hI _ (by omega)), y6.2.2.2⟩, a_u2_s _ _ _ _, by rw [hlk.2 nest (by omega)]; exact hcp.2.2.1, fun i s hs => ?_⟩, by omega⟩, ⟨y8, y9⟩, ⟨w1, by rw [hI 134 (by omega)]; exact w2, w3, hS.2⟩, x11, x12⟩, hI⟩
  · unfold mX5_leave
    rw [e]
  · have hi : i < S.length := (List.getElem?_eq_some_iff.mp hs).1
    obtain ⟨z1, z2⟩ := hcp.2.2.2 i s hs
    have hl := hlk.1 (nest * 85 + i) (by omega)
    exact ⟨by rw [hl.1]; exact z1, by rw [hl.2]; exact z2⟩
/-- the reference goes back -/
theorem pu_back (H : PU k h M n D F I B J L P md nest lv S a6 a8 a0 wd b) (hok : SOK k h M L B J n lv S) (hv : SV B J n nest S) : ∃ B' J', mX12_back (a_u2 B 186 43 (nI S.length)) J (nI nest) = some (B', J') ∧ PT k h M n D F I B' J' L P md nest lv S a6 a8 a0 wd b 0 ∧ (∀ c i, ¬ (c = 186 ∧ i = 43) → ¬ ((c = 208 ∨ c = 209) ∧ i < 128) → B' c i = B c i) ∧ (∀ c i, ¬ (c = 206 ∧ i < 128) → J' c i = J c i) := by
  obtain ⟨x1, x2, x3, x4, x5, x6, ⟨y1, y2, y3, y4, y5⟩, ⟨y6, y7⟩, ⟨y8, y9⟩, ⟨w1, w2, w3, w4⟩, ⟨v1, v2, v3, v4, v5⟩, x12⟩ := H
  have hok' : SOK k h M L (a_u2 B 186 43 (nI S.length)) J n lv S := sok_to hok x3 TE.rfl (fun v _ _ => ⟨a_u2_n _ _ (by omega), a_u2_n _ _ (by omega), a_u2_n _ _ (by omega), a_u2_n _ _ (by omega), rfl⟩)
  have hv' : SV (a_u2 B 186 43 (nI S.length)) J n nest S := fun i s hs => ⟨(hv i s hs).1, fun q => by rw [a_u2_n _ _ (by omega)]; exact (hv i s hs).2.1 q, fun q => by rw [a_u2_n _ _ (by omega)]; exact (hv i s hs).2.2 q⟩
  obtain ⟨B', J', e1, e2, e3, e4⟩ := sr_back y6 hok' hv' x3 y9 (a_u2_s _ _ _ _)
  have fB : ∀ c i, ¬ (c = 186 ∧ i = 43) → ¬ ((c = 208 ∨ c = 209) ∧ i < 128) → B' c i = B c i := fun c i q1 q2 => by rw [e3 c i q2, a_u2_n _ _ q1]
  exact ⟨B', J', e1, ⟨⟨x1, x2.1, x3, x4, ⟨y1, by rw [fB _ _ (by omega) (by omega)]; exact y2, by rw [fB _ _ (by omega) (by omega)]; exact y3, y4⟩, e2, ⟨by rw [fB _ _ (by omega) (by omega)]; exact y8, y9⟩, v1, v2⟩, ⟨x2.2, by rw [fB _ _ (by omega) (by omega)]; exact y5⟩, x5, dd_to x6 x3 TE.rfl rfl (fun _ _ => rfl) (fun _ _ => rfl) (fun _ _ => rfl) (fun v _ _ => ⟨fB _ _ (by omega) (by omega), fB _ _ (by omega) (by omega), fB _ _ (by omega) (by omega), fB _ _ (by omega) (by omega), e4 _ _ (by omega)⟩) (fun q i hq => fB _ _ (by omega) (by omega)) (fun i => e4 _ _ (by omega)), ⟨by rw [fB _ _ (by omega) (by omega)]; exact w1, w2, w3, w4⟩, ⟨by omega, v4, v5⟩, x12⟩, fB, e4⟩
/-- the reference closes: a whole P -/
theorem pu_pe (H : PU k h M n D F I B J L P md (nest + 1) nest S a6 a8 a0 wd b) (h55 : 3 * (L (k + 55)).length ≤ P + 18 * nest) : PE k h M n D F I (a_u2 B 186 45 (nI nest)) J L P md nest a6 a8 a0 wd b := by
  obtain ⟨x1, x2, x3, x4, x5, x6, ⟨y1, y2, y3, y4, y5⟩, ⟨y6, y7⟩, ⟨y8, y9⟩, ⟨w1, w2, w3, w4⟩, ⟨v1, v2, v3, v4, v5⟩, x12⟩ := H
  have fB : ∀ q j, ¬ (q = 186 ∧ j = 45) → (a_u2 B 186 45 (nI nest)) q j = B q j := fun q j w => a_u2_n _ _ w
  exact ⟨x1, x2, x3, x4, x5, dd_to x6 x3 TE.rfl rfl (fun _ _ => rfl) (fun _ _ => rfl) (fun _ _ => rfl) (fun v _ _ => ⟨fB _ _ (by omega), fB _ _ (by omega), fB _ _ (by omega), fB _ _ (by omega), rfl⟩) (fun q i hq => fB _ _ (by omega)) (fun i => rfl), ⟨y1, by rw [fB _ _ (by omega)]; exact y2, by rw [fB _ _ (by omega)]; exact y3, y4, by rw [fB _ _ (by omega)]; exact y5⟩, ⟨y6.1, y6.2.1⟩, ⟨a_u2_s _ _ _ _, by omega⟩, ⟨by rw [fB _ _ (by omega)]; exact w1, w2, w3⟩, ⟨v1, v2, v3, v4, h55⟩, x12⟩
theorem sv_to {B' : iT} {J' : jT} {deep : Nat} (hv : SV B J n deep S) (hS : S.length ≤ 85 ∧ n < S.length) (hB : ∀ c i, (c = 210 ∨ c = 211) → i < 128 * deep + 128 → 128 * deep ≤ i → B' c i = B c i) (hJ : ∀ i, i < 128 * deep + 128 → 128 * deep ≤ i → J' 207 i = J 207 i) : SV B' J' n deep S := by
  intro i s hs
  have hi : i < S.length := (List.getElem?_eq_some_iff.mp hs).1
  have hsg := sg_lt hS.2 hi
  obtain ⟨z1, z2, z3⟩ := hv i s hs
  exact ⟨by rw [hJ _ (by omega) (by omega)]; exact z1, fun q => by rw [hB 210 _ (by omega) (by omega) (by omega)]; exact z2 q, fun q => by rw [hB 211 _ (by omega) (by omega) (by omega)]; exact z3 q⟩
theorem pgr_trans {L1 L2 : lT} {P1 P2 md1 md2 : Nat} (a : PGr k L L1 P P1 md md1) (c : PGr k L1 L2 P1 P2 md1 md2) : PGr k L L2 P P2 md md2 := by
  obtain ⟨a1, a2, ⟨a3, a3x⟩, a4, a5, ⟨ra, a6⟩, a7, a8, a9, a10, a11, a12, a13, a14, a15⟩ := a
  obtain ⟨c1, c2, ⟨c3, c3x⟩, c4, c5, ⟨rc, c6⟩, c7, c8, c9, c10, c11, c12, c13, c14, c15⟩ := c
  refine ⟨a1.trans c1, fun x w => by rw [c2 x w]; exact a2 x w, ⟨fun x w1 w2 => by rw [c3 x w1 w2]; exact a3 x w1 w2, fun hx => c3x (a3x hx)⟩, fun j hj => ?_, fun j hj => ?_, ⟨ra ++ rc, by rw [c6, a6, List.append_assoc]⟩, by omega, by omega, by omega, by omega, by omega, by omega, by omega, by omega, by omega⟩
  · obtain ⟨p1, p2, p3, p4⟩ := a4 j hj
    obtain ⟨q1, q2, q3, q4⟩ := c4 j (by omega)
    exact ⟨q1.trans p1, q2.trans p2, q3.trans p3, q4.trans p4⟩
  · obtain ⟨p1, p2⟩ := a5 j hj
    obtain ⟨q1, q2⟩ := c5 j (by omega)
    exact ⟨q1.trans p1, q2.trans p2⟩
/-- a field of a later node changes -/
theorem pgr_put {L1 : lT} {P1 md1 a j : Nat} {v : Int32} (H : PGr k L L1 P P1 md md1) (ha : a = k + 49 ∨ a = k + 51 ∨ a = k + 57) (hj : a ≠ k + 57 → (L (k + 47)).length ≤ j) (hj2 : a = k + 57 → (L (k + 55)).length ≤ j) : PGr k L (upL L1 a ((L1 a).set j v)) P P1 md md1 := by
  obtain ⟨a1, a2, ⟨a3, a3x⟩, a4, a5, ⟨ra, a6⟩, a7, a8, a9, a10, a11, a12, a13, a14, a15⟩ := H
  have hlen : ∀ c, (upL L1 a ((L1 a).set j v) c).length = (L1 c).length := by
    intro c
    by_cases q : c = a
    · subst q; rw [upL_s, List.length_set]
    · rw [upL_n _ _ q]
  have hg : ∀ c i, i ≠ j ∨ c ≠ a → gI (upL L1 a ((L1 a).set j v) c) i = gI (L1 c) i := by
    intro c i hi
    by_cases q : c = a
    · subst q; rw [upL_s, gI_sn (by omega)]
    · rw [upL_n _ _ q]
  refine ⟨fun x w1 w2 => by rw [upL_n _ _ (by omega)]; exact a1 x w1 w2, fun x w => by rw [upL_n _ _ (by omega)]; exact a2 x w, ⟨fun x w1 w2 => by rw [upL_n _ _ (by omega)]; exact a3 x w1 w2, fun hx i hi => by rw [hlen] at hi; rw [upL_n _ _ (by omega)]; exact a3x hx i hi⟩, fun i hi => ?_, fun i hi => ?_, ⟨ra, by rw [upL_n _ _ (by omega)]; exact a6⟩, by rw [hlen]; exact a7, by rw [hlen]; exact a8, a9, a10, by rw [hlen]; exact a11, a12, by rw [hlen]; exact a13, by rw [hlen]; exact a14, by rw [hlen]; exact a15⟩
  · rw [hg _ _ (by omega), hg _ _ (by omega), hg _ _ (by omega), hg _ _ (by omega)]
    exact a4 i hi
  · rw [hg _ _ (by omega), hg _ _ (by omega)]
    exact a5 i hi
end
