/-! THE TAPE's bytes (pure) -/
theorem feed_eq2 {I B : iT} {t : List Int32} (h : tapeR I B t) (x1 x2 x3 x4 x5 : Int32) : ∃ r I' B' t', mX11_feed I x1 x2 x3 x4 x5 = some (r, I') ∧ mX12_feed B x1 x2 x3 x4 x5 = some (r, B') ∧ tapeR I' B' t' ∧ (∀ b, b ≠ 2 → b ≠ 3 → I' b = I b) ∧ (∀ b i, ¬ (b = 186 ∧ i = 1) → b ≠ 187 → B' b i = B b i) ∧ (∀ y ∈ t', y ∈ t ∨ y ∈ feedL x1 x2 x3 x4 x5) := by
  obtain ⟨h1, h2, h3, h4⟩ := h
  have e20 : nI t.length + 20 = nI (t.length + 20) := nI_add t.length 20
  unfold mX11_feed mX12_feed
  rw [row_size h1, h3]
  show ∃ r I' B' t', (if nI t.length + 20 ≤ 1000 then _ else _) = _ ∧ _
  rw [e20]
  by_cases hc : t.length + 20 ≤ 1000
  · have hL : LEN (2 + 1) = 1000 := ln_3
    have hL3 : LEN 3 = 1000 := ln_3
    obtain ⟨I1, a1, u1, f1⟩ := row_bytes h1 (by omega) x1
    obtain ⟨I2, a2, u2, f2⟩ := row_bytes u1 (by simp; omega) x2
    obtain ⟨I3, a3, u3, f3⟩ := row_bytes u2 (by simp; omega) x3
    obtain ⟨I4, a4, u4, f4⟩ := row_bytes u3 (by simp; omega) x4
    obtain ⟨I5, a5, u5, f5⟩ := row_bytes u4 (by simp; omega) x5
    have u6 : rowIs I5 2 (t ++ feedL x1 x2 x3 x4 x5) := by simpa [feedL] using u5
    obtain ⟨B', b1, b2, b3, b4⟩ := feed_loop (x1 := x1) (x2 := x2) (x3 := x3) (x4 := x4) (x5 := x5) 20 0 LF t.length B rfl (by unfold LF; omega) h3 hc
    have hlen : (t ++ feedL x1 x2 x3 x4 x5).length = t.length + 20 := by rw [List.length_append]; rfl
    refine ⟨nI (t.length + 20), I5, B', t ++ feedL x1 x2 x3 x4 x5, ?_, ?_, ⟨u6, by omega, by rw [hlen]; exact b2, fun i hi => ?_⟩, fun b q1 q2 => by rw [f5 b q1 q2, f4 b q1 q2, f3 b q1 q2, f2 b q1 q2, f1 b q1 q2], fun b i q1 q2 => b4 b i q1 (fun z => q2 z.1), fun y hy => List.mem_append.mp hy⟩
    · rw [if_pos (show nI (t.length + 20) ≤ (1000 : Int32) from nI_le (b := 1000) hc (by omega)), a1]
      show (mX4_addBytes 2 I1 x2).bind _ = _
      rw [a2]
      show (mX4_addBytes 2 I2 x3).bind _ = _
      rw [a3]
      show (mX4_addBytes 2 I3 x4).bind _ = _
      rw [a4]
      show (mX4_addBytes 2 I4 x5).bind _ = _
      rw [a5]
      show (mX4_size 2 I5).bind (fun q7 => some (q7, I5)) = _
      rw [row_size u6, hlen]
      rfl
    · rw [if_pos (show nI (t.length + 20) ≤ (1000 : Int32) from nI_le (b := 1000) hc (by omega))]
      rw [nI_0] at b1
      exact b1
    · rw [hlen] at hi
      by_cases hi2 : i < t.length
      · rw [b4 187 i (by omega) (by omega), h4 i hi2, List.getD_eq_getElem?_getD, List.getD_eq_getElem?_getD, List.getElem?_append_left hi2]
      · obtain ⟨j, rfl⟩ : ∃ j, i = t.length + j := ⟨i - t.length, by omega⟩
        rw [b3 j (by omega), Nat.zero_add, ← feedL_at x1 x2 x3 x4 x5 j (by omega), List.getD_eq_getElem?_getD, List.getD_eq_getElem?_getD, List.getElem?_append_right (by omega), show t.length + j - t.length = j by omega]
  · refine ⟨-1, I, B, t, ?_, ?_, ⟨h1, h2, h3, h4⟩, fun _ _ _ => rfl, fun _ _ _ _ => rfl, fun y hy => Or.inl hy⟩
    · rw [if_neg (show ¬ nI (t.length + 20) ≤ (1000 : Int32) from nI_ge (a := 1000) (by omega) (by omega))]
    · rw [if_neg (show ¬ nI (t.length + 20) ≤ (1000 : Int32) from nI_ge (a := 1000) (by omega) (by omega))]
theorem end_eq2 {I B : iT} {t : List Int32} (h : tapeR I B t) (x : Int32) : ∃ r I' B' t', mX11_end I x = some (r, I') ∧ mX12_end B x = some (r, B') ∧ tapeR I' B' t' ∧ (∀ b, b ≠ 2 → b ≠ 3 → I' b = I b) ∧ (∀ b i, ¬ (b = 186 ∧ i = 1) → B' b i = B b i) ∧ (∀ y ∈ t', y ∈ t) := by
  obtain ⟨h1, h2, h3, h4⟩ := h
  unfold mX11_end mX12_end
  rw [isIn_eq, row_size h1, h3]
  rcases i32_cases x with hx | ⟨n, hn, rfl⟩
  · exact ⟨0, I, B, t, by rw [if_pos hx], by rw [if_pos (Or.inl hx)]; rfl, ⟨h1, h2, h3, h4⟩, fun _ _ _ => rfl, fun _ _ _ => rfl, fun y hy => hy⟩
  · by_cases hc : n ≤ t.length
    · obtain ⟨I', e1, e2, e3⟩ := row_cut h1 (nI n)
      have e4 : lcut t (nI n) = t.take n := by unfold lcut; rw [if_neg (nI_not0 hn), nI_clamp hn]
      rw [e4] at e2
      refine ⟨1, I', a_u2 B 186 1 (nI n), t.take n, ?_, ?_, ⟨e2, by rw [List.length_take]; omega, ?_, fun i hi => ?_⟩, e3, fun b i q => a_u2_n _ _ q, fun y hy => List.mem_of_mem_take hy⟩
      · rw [if_neg (nI_not0 hn)]
        show (if nI n ≤ nI t.length then _ else _) = _
        rw [if_pos (nI_le hc (by omega)), e1]; rfl
      · rw [if_neg (fun q => q.elim (nI_not0 hn) (nI_nlt hc (by omega)))]
        rfl
      · rw [a_u2_s, List.length_take, Nat.min_eq_left hc]
      · rw [List.length_take] at hi
        rw [a_u2_n _ _ (by omega), h4 i (by omega), List.getD_eq_getElem?_getD, List.getD_eq_getElem?_getD, List.getElem?_take_of_lt (by omega)]
    · refine ⟨0, I, B, t, ?_, ?_, ⟨h1, h2, h3, h4⟩, fun _ _ _ => rfl, fun _ _ _ => rfl, fun y hy => hy⟩
      · rw [if_neg (nI_not0 hn)]
        show (if nI n ≤ nI t.length then _ else _) = _
        rw [if_neg (nI_ge (by omega) hn)]
      · rw [if_pos (Or.inr (nI_lt (by omega) hn))]
        rfl
theorem byt_lt (x : Int32) (k : Nat) : ∃ c, c < 256 ∧ byt x k = nI c := by
  unfold byt
  exact pk_andE _ 8 (by decide)
theorem feedL_b {x1 x2 x3 x4 x5 y : Int32} (h : y ∈ feedL x1 x2 x3 x4 x5) : ∃ c, c < 256 ∧ y = nI c := by
  unfold feedL at h
  simp only [List.mem_cons, List.not_mem_nil, or_false] at h
  rcases h with rfl | rfl | rfl | rfl | rfl | rfl | rfl | rfl | rfl | rfl | rfl | rfl | rfl | rfl | rfl | rfl | rfl | rfl | rfl | rfl <;> exact byt_lt _ _
/-- bytes as numbers -/
theorem mp_of : ∀ (t : List Int32), (∀ y ∈ t, ∃ c, c < 256 ∧ y = nI c) → ∃ bs : List Nat, t = mpI bs ∧ ∀ c ∈ bs, c < 256 := by
  intro t
  induction t with
  | nil => intro _; exact ⟨[], rfl, fun c hc => by cases hc⟩
  | cons y t ih =>
    intro h
    obtain ⟨bs, h1, h2⟩ := ih (fun z hz => h z (List.mem_cons_of_mem _ hz))
    obtain ⟨c, hc, e⟩ := h y (List.mem_cons_self ..)
    refine ⟨c :: bs, by rw [h1, e]; rfl, fun d hd => ?_⟩
    rcases List.mem_cons.mp hd with w | w
    · rw [w]; exact hc
    · exact h2 d w
theorem mp_mem {bs : List Nat} (h : ∀ c ∈ bs, c < 256) {y : Int32} (hy : y ∈ mpI bs) : ∃ c, c < 256 ∧ y = nI c := by
  unfold mpI at hy
  obtain ⟨c, hc, e⟩ := List.mem_map.mp hy
  exact ⟨c, h c hc, e.symm⟩
/-- both tapes hold bytes -/
def TPR (I B : iT) : Prop := ∃ bs : List Nat, tapeR I B (mpI bs) ∧ ∀ c ∈ bs, c < 256
theorem tp_feed {I B : iT} (h : TPR I B) (x1 x2 x3 x4 x5 : Int32) : ∃ r I' B', mX11_feed I x1 x2 x3 x4 x5 = some (r, I') ∧ mX12_feed B x1 x2 x3 x4 x5 = some (r, B') ∧ TPR I' B' ∧ (∀ b, b ≠ 2 → b ≠ 3 → I' b = I b) ∧ (∀ b i, ¬ (b = 186 ∧ i = 1) → b ≠ 187 → B' b i = B b i) := by
  obtain ⟨bs, h1, h2⟩ := h
  obtain ⟨r, I', B', t', a1, a2, a3, a4, a5, a6⟩ := feed_eq2 h1 x1 x2 x3 x4 x5
  obtain ⟨bs', b1, b2⟩ := mp_of t' (fun y hy => (a6 y hy).elim (fun w => mp_mem h2 w) feedL_b)
  exact ⟨r, I', B', a1, a2, ⟨bs', by rw [← b1]; exact a3, b2⟩, a4, a5⟩
theorem tp_end {I B : iT} (h : TPR I B) (x : Int32) : ∃ r I' B', mX11_end I x = some (r, I') ∧ mX12_end B x = some (r, B') ∧ TPR I' B' ∧ (∀ b, b ≠ 2 → b ≠ 3 → I' b = I b) ∧ (∀ b i, ¬ (b = 186 ∧ i = 1) → B' b i = B b i) := by
  obtain ⟨bs, h1, h2⟩ := h
  obtain ⟨r, I', B', t', a1, a2, a3, a4, a5, a6⟩ := end_eq2 h1 x
  obtain ⟨bs', b1, b2⟩ := mp_of t' (fun y hy => mp_mem h2 (a6 y hy))
  exact ⟨r, I', B', a1, a2, ⟨bs', by rw [← b1]; exact a3, b2⟩, a4, a5⟩
