/-! THE HOUSE AT THE START (pure) -/
theorem fillR_n {I : iT} {a : Nat} {x : Int32} {q : Nat} (h1 : q ≠ a) (h2 : q ≠ a + 1) : fillR I a x q = I q := by
  unfold fillR
  rw [a_u2_r _ _ h1]
  funext i
  show (if q = a + 1 ∧ i < LEN (a + 1) then x else I q i) = I q i
  rw [if_neg (fun w => h2 w.1)]
theorem fillR_row (I : iT) (a : Nat) (x : Int32) : rowIs (fillR I a x) a (List.replicate (LEN (a + 1)) x) := by
  refine ⟨?_, ?_, fun i hi => ?_⟩
  · rw [List.length_replicate]
    exact a_u2_s _ _ _ _
  · rw [List.length_replicate]
    exact Nat.le_refl _
  · rw [List.length_replicate] at hi
    unfold fillR
    rw [a_u2_r _ _ (by omega), List.getD_eq_getElem?_getD, List.getElem?_replicate, if_pos hi]
    show (if a + 1 = a + 1 ∧ i < LEN (a + 1) then x else I (a + 1) i) = x
    rw [if_pos ⟨rfl, hi⟩]
theorem st_176 : rowIs IA0 176 (List.replicate (LEN 177) 0) := by
  unfold IA0
  exact (fillR_row _ 176 0).keep (a_u2_r _ _ (by omega)) (a_u2_r _ _ (by omega))
theorem st_140 : rowIs IA0 140 (List.replicate (LEN 141) 0) := by
  unfold IA0
  exact (((fillR_row _ 140 0).keep (a_u2_r _ _ (by omega)) (a_u2_r _ _ (by omega))).keep (fillR_n (by omega) (by omega)) (fillR_n (by omega) (by omega))).keep (a_u2_r _ _ (by omega)) (a_u2_r _ _ (by omega))
theorem st_138 : rowIs IA0 138 (List.replicate (LEN 139) (-1)) := by
  unfold IA0
  exact ((((fillR_row _ 138 (-1)).keep (fillR_n (by omega) (by omega)) (fillR_n (by omega) (by omega))).keep (a_u2_r _ _ (by omega)) (a_u2_r _ _ (by omega))).keep (fillR_n (by omega) (by omega)) (fillR_n (by omega) (by omega))).keep (a_u2_r _ _ (by omega)) (a_u2_r _ _ (by omega))
theorem st_136 : rowIs IA0 136 (List.replicate (LEN 137) 0) := by
  unfold IA0
  exact (((((fillR_row _ 136 0).keep (fillR_n (by omega) (by omega)) (fillR_n (by omega) (by omega))).keep (fillR_n (by omega) (by omega)) (fillR_n (by omega) (by omega))).keep (a_u2_r _ _ (by omega)) (a_u2_r _ _ (by omega))).keep (fillR_n (by omega) (by omega)) (fillR_n (by omega) (by omega))).keep (a_u2_r _ _ (by omega)) (a_u2_r _ _ (by omega))
theorem st_len : LEN 137 = 765 ∧ LEN 139 = 765 ∧ LEN 141 = 9 ∧ LEN 177 = 6800 := by decide +kernel
theorem st_empty : ∀ a, a < 185 → ((14 ≤ a ∧ a ≤ 133) ∨ (143 ≤ a ∧ a ≤ 146) ∨ (150 ≤ a ∧ a ≤ 174) ∨ (178 ≤ a ∧ a ≤ 184)) → IA0 a 1 = 0 := by decide +kernel
theorem st_row {a : Nat} (h : a < 185) (ha : (14 ≤ a ∧ a ≤ 133) ∨ (143 ≤ a ∧ a ≤ 146) ∨ (150 ≤ a ∧ a ≤ 174) ∨ (178 ≤ a ∧ a ≤ 184)) : rowIs IA0 a [] := ⟨st_empty a h ha, Nat.zero_le _, fun i hi => by cases hi⟩
theorem st_wcs : rowIs IA0 7 wcs := ⟨by decide +kernel, by decide +kernel, by decide +kernel⟩
theorem st_scp : SCP 85 IA0 := by
  obtain ⟨e1, e2, e3, e4⟩ := st_len
  refine ⟨_, _, _, 0, ⟨st_136, st_138, st_140, by rw [List.length_replicate]; exact e1, by rw [List.length_replicate]; exact e2, by rw [List.length_replicate]; exact e3⟩, by decide +kernel, by omega, fun i hi => ⟨0, by omega, ?_⟩⟩
  unfold gI
  rw [List.getD_eq_getElem?_getD, List.getElem?_replicate, if_pos (by rw [e3]; exact hi)]
  rfl
theorem st_RS {k : Nat} (hk : k = 12 ∨ k = 73) : RS IA0 k (fun _ => []) := ⟨hk, fun a ha => by
  unfold rowA at ha
  exact st_row (by omega) (by omega)⟩
theorem st_RN : RN IA0 (fun a => if a = 176 then List.replicate (LEN 177) 0 else []) := fun a ha => by
  unfold rnA at ha
  by_cases q : a = 176
  · subst q
    exact st_176
  · show rowIs IA0 a (if a = 176 then List.replicate (LEN 177) 0 else [])
    rw [if_neg q]
    exact st_row (by omega) (by omega)
theorem hs_first : HS 85 IA0 IA0 J00 FA0 := by
  refine ⟨⟨[], fr_tape, fun c hc => by cases hc⟩, fr_fault, ⟨[], fr_out⟩, st_wcs, st_scp, ⟨⟨_, st_RS (Or.inl rfl)⟩, ⟨_, st_RS (Or.inr rfl)⟩⟩, Or.inl ⟨by decide +kernel, by decide +kernel⟩, Or.inl ⟨fr_unl, ⟨_, st_RN, ?_⟩, by decide +kernel, by decide +kernel⟩⟩
  show (List.replicate (LEN 177) (0 : Int32)).length = 6800
  rw [List.length_replicate]
  exact st_len.2.2.2
