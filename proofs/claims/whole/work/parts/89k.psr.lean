/-! WHAT IS THERE CHANGES inside a statement (pure) -/
section
variable {k h M n : Nat} {D : List Df} {F : fT} {I B : iT} {J : jT} {L : lT} {P md nest wd b z : Nat} {S : List Sl} {a6 a8 a0 : List Int32}
theorem ps_sr (H : PS k h M n D F I B J L P md nest S a6 a8 a0 wd b z) {I' B' : iT} {J' : jT} {S' : List Sl} {b6 b8 b0 : List Int32} (HS : SR k h M L I' B' J' n nest S' b6 b8 b0) (hI : ∀ q, ¬ (136 ≤ q ∧ q ≤ 141) → I' q = I q) (hB : ∀ q j, ¬ (q = 186 ∧ j = 43) → ¬ (q = 208 ∨ q = 209) → B' q j = B q j) (hJ : ∀ q j, q ≠ 206 → J' q j = J q j) (hl : S'.length ≤ 5 + wd) (h0 : ∀ i, i < 9 → ∃ s, s ≤ b ∧ gI b0 i = nI s) : PS k h M n D F I' B' J' L P md nest S' b6 b8 b0 wd b z := by
  obtain ⟨⟨x1, x2, x3, x4, ⟨y1, y2, y3, y4⟩, x6, ⟨y5, y6⟩, x8⟩, ⟨h2, h3⟩, h4, h5, ⟨h6, h7, h8, h9⟩, h10, h13⟩ := H
  have hk := x1.1
  have hR : RS I' k L := rs_keep x1 (fun a ha => by
    unfold rowA at ha
    exact ⟨hI a (by omega), hI (a + 1) (by omega)⟩)
  exact ⟨⟨hR, x2, x3, x4, ⟨y1, by rw [hB _ _ (by omega) (by omega)]; exact y2, by rw [hB _ _ (by omega) (by omega)]; exact y3, y4⟩, HS, ⟨by rw [hB _ _ (by omega) (by omega)]; exact y5, y6⟩, x8⟩, ⟨h2, by rw [hB _ _ (by omega) (by omega)]; exact h3⟩, h4, dd_to h5 x3 TE.rfl rfl (fun _ _ => rfl) (fun _ _ => rfl) (fun _ _ => rfl) (fun v _ _ => ⟨hB _ _ (by omega) (by omega), hB _ _ (by omega) (by omega), hB _ _ (by omega) (by omega), hB _ _ (by omega) (by omega), hJ _ _ (by omega)⟩) (fun q j hq => hB _ _ (by omega) (by omega)) (fun j => hJ _ _ (by omega)), ⟨by rw [hB _ _ (by omega) (by omega)]; exact h6, by rw [hI 134 (by omega)]; exact h7, h8, hl⟩, h10, h0, h13.2⟩
theorem ps_set (H : PS k h M n D F I B J L P md nest S a6 a8 a0 wd b z) {i : Nat} {s : Sl} (hs : S[i]? = some s) (h2 : s.1 = 2) {u t p : Nat} (hp : p ≤ 200) (hTR : TR k L B J (fun v => 1400 * h ≤ v ∧ v < M) p u t p) : ∃ I', mX5_setTalk I (nI i) (nI t) = some I' ∧ PS k h M n D F I' (a_u2 B 209 (sg n i) (nI u)) J L P md nest (S.set i (2, s.2.1, u, t, p)) a6 (a8.set (nest * 85 + i) (nI t)) a0 wd b z ∧ (∀ q, ¬ (136 ≤ q ∧ q ≤ 139) → I' q = I q) := by
  obtain ⟨I', e1, e2, e3⟩ := sr_set H.1.2.2.2.2.2.1 hs h2 hp hTR
  exact ⟨I', e1, ps_sr H e2 (fun q w => e3 q (by omega)) (fun q j w1 w2 => a_u2_n _ _ (by omega)) (fun _ _ _ => rfl) (by rw [List.length_set]; exact H.2.2.2.2.1.2.2.2) H.2.2.2.2.2.2.1, e3⟩
theorem ps_drop (H : PS k h M n D F I B J L P md nest S a6 a8 a0 wd b z) {i : Nat} {s : Sl} (hs : S[i]? = some s) (hi : 1 ≤ i) : ∃ I', mX5_drop I (nI i) = some I' ∧ PS k h M n D F I' B (a_u2 J 206 (sg n i) 0) L P md nest (S.set i (0, s.2)) (a6.set (nest * 85 + i) 0) (a8.set (nest * 85 + i) (-1)) a0 wd b z ∧ (∀ q, ¬ (136 ≤ q ∧ q ≤ 139) → I' q = I q) := by
  obtain ⟨I', e1, e2, e3⟩ := sr_drop H.1.2.2.2.2.2.1 hs hi
  exact ⟨I', e1, ps_sr H e2 (fun q w => e3 q (by omega)) (fun _ _ _ _ => rfl) (fun q j w => a_u2_n _ _ (by omega)) (by rw [List.length_set]; exact H.2.2.2.2.1.2.2.2) H.2.2.2.2.2.2.1, e3⟩
end
