/-! THE TAPE, the fault, what is out (pure) -/
/-- both tapes hold the bytes t -/
def tapeR (I B : iT) (t : List Int32) : Prop := rowIs I 2 t ∧ t.length ≤ 1000 ∧ B 186 1 = nI t.length ∧ ∀ i, i < t.length → B 187 i = t.getD i (-1)
def faultR (I B : iT) : Prop := I 6 9 = B 186 9 ∧ I 6 10 = B 186 10
def outR (I B : iT) (o : List Int32) : Prop := rowIs I 4 o ∧ o.length ≤ 4000 ∧ B 186 80 = nI o.length ∧ ∀ i, i < o.length → B 231 i = o.getD i (-1)
theorem fault_eq {I B : iT} (h : faultR I B) (x : Int32) : ∃ r, mX11_fault I x = some r ∧ mX12_fault B x = some r := by
  unfold mX11_fault mX12_fault
  rw [h.1, h.2]
  by_cases h1 : x = 0
  · exact ⟨_, by rw [if_pos h1], by rw [if_pos h1]⟩
  · by_cases h2 : x = 1
    · exact ⟨_, by rw [if_neg h1, if_pos h2], by rw [if_neg h1, if_pos h2]⟩
    · exact ⟨_, by rw [if_neg h1, if_neg h2], by rw [if_neg h1, if_neg h2]⟩
theorem out_eq {I B : iT} {o : List Int32} (h : outR I B o) (x : Int32) : ∃ r, mX11_out I x = some r ∧ mX12_out B x = some r := by
  obtain ⟨h1, h2, h3, h4⟩ := h
  refine ⟨lat o x, ?_, ?_⟩
  · unfold mX11_out
    rw [row_at h1]
    rfl
  · unfold mX12_out
    rw [isIn_eq, h3]
    rcases i32_cases x with hx | ⟨n, hn, rfl⟩
    · rw [lat_neg hx, if_pos (Or.inl hx)]; rfl
    · rw [lat_nI hn]
      by_cases hc : n < o.length
      · have e1 : nI o.length - 1 = nI (o.length - 1) := by
          obtain ⟨m, hm⟩ : ∃ m, o.length = m + 1 := ⟨o.length - 1, by omega⟩
          rw [hm, nI_pred]; rfl
        have e2 : ¬ (nI n < 0 ∨ nI o.length - 1 < nI n) := by
          rw [e1]
          exact fun q => q.elim (nI_not0 hn) (nI_nlt (by omega) (by omega))
        rw [if_neg e2]
        show (if (1 : Int32) = 0 then some (-1) else _) = _
        rw [if_neg (by decide), if_pos (show inb (nI n) 8000 from vp_in_nI (by omega) (by omega)), nI_clamp hn, h4 n hc]
        rfl
      · have e2 : nI n < 0 ∨ nI o.length - 1 < nI n := by
          right
          rcases Nat.eq_zero_or_pos o.length with z | z
          · rw [z, nI_0, Int32.lt_iff_toInt_lt, nI_toInt hn]
            have e : (0 - 1 : Int32).toInt = -1 := by decide
            omega
          · obtain ⟨m, hm⟩ : ∃ m, o.length = m + 1 := ⟨o.length - 1, by omega⟩
            rw [hm, nI_pred]
            exact nI_lt (by omega) hn
        rw [if_pos e2, List.getD_eq_getElem?_getD, List.getElem?_eq_none (by omega)]
        rfl
theorem end_eq {I B : iT} {t : List Int32} (h : tapeR I B t) (x : Int32) : ∃ r I' B' t', mX11_end I x = some (r, I') ∧ mX12_end B x = some (r, B') ∧ tapeR I' B' t' ∧ (∀ b, b ≠ 2 → b ≠ 3 → I' b = I b) ∧ (∀ b i, ¬ (b = 186 ∧ i = 1) → B' b i = B b i) := by
  obtain ⟨h1, h2, h3, h4⟩ := h
  unfold mX11_end mX12_end
  rw [isIn_eq, row_size h1, h3]
  rcases i32_cases x with hx | ⟨n, hn, rfl⟩
  · exact ⟨0, I, B, t, by rw [if_pos hx], by rw [if_pos (Or.inl hx)]; rfl, ⟨h1, h2, h3, h4⟩, fun _ _ _ => rfl, fun _ _ _ => rfl⟩
  · by_cases hc : n ≤ t.length
    · obtain ⟨I', e1, e2, e3⟩ := row_cut h1 (nI n)
      have e4 : lcut t (nI n) = t.take n := by unfold lcut; rw [if_neg (nI_not0 hn), nI_clamp hn]
      rw [e4] at e2
      refine ⟨1, I', a_u2 B 186 1 (nI n), t.take n, ?_, ?_, ⟨e2, by rw [List.length_take]; omega, ?_, fun i hi => ?_⟩, e3, fun b i q => a_u2_n _ _ q⟩
      · rw [if_neg (nI_not0 hn)]
        show (if nI n ≤ nI t.length then _ else _) = _
        rw [if_pos (nI_le hc (by omega)), e1]; rfl
      · rw [if_neg (fun q => q.elim (nI_not0 hn) (nI_nlt hc (by omega)))]
        rfl
      · rw [a_u2_s, List.length_take, Nat.min_eq_left hc]
      · rw [List.length_take] at hi
        rw [a_u2_n _ _ (by omega), h4 i (by omega), List.getD_eq_getElem?_getD, List.getD_eq_getElem?_getD, List.getElem?_take_of_lt (by omega)]
    · refine ⟨0, I, B, t, ?_, ?_, ⟨h1, h2, h3, h4⟩, fun _ _ _ => rfl, fun _ _ _ => rfl⟩
      · rw [if_neg (nI_not0 hn)]
        show (if nI n ≤ nI t.length then _ else _) = _
        rw [if_neg (nI_ge (by omega) hn)]
      · rw [if_pos (Or.inr (nI_lt (by omega) hn))]
        rfl
