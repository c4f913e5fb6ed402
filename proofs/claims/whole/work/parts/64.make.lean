/-! make and makeChoice (pure) -/
def tabL (k : Nat) (L : lT) : Prop := TAB (L (k + 2)) (L (k + 4)) (L (k + 6)) (L (k + 8)) (L (k + 10)) (L (k + 12))
def EXT (k : Nat) (L L' : lT) : Prop := (∀ a, k + 2 ≤ a → a ≤ k + 12 → ∃ r, L' a = L a ++ r) ∧ ∀ a, ¬ (k + 2 ≤ a ∧ a ≤ k + 12) → L' a = L a
theorem EXT.rfl {k : Nat} {L : lT} : EXT k L L := ⟨fun a _ _ => ⟨[], (List.append_nil _).symm⟩, fun _ _ => Eq.refl _⟩
theorem EXT.trans {k : Nat} {L L1 L2 : lT} (h : EXT k L L1) (g : EXT k L1 L2) : EXT k L L2 := by
  refine ⟨fun a h1 h2 => ?_, fun a q => (g.2 a q).trans (h.2 a q)⟩
  obtain ⟨r, e⟩ := h.1 a h1 h2
  obtain ⟨r', e'⟩ := g.1 a h1 h2
  exact ⟨r ++ r', by rw [e', e, List.append_assoc]⟩
theorem lenT {k : Nat} (hk : k = 12 ∨ k = 73) : LEN (k + 2 + 1) = 1000 ∧ LEN (k + 4 + 1) = 1000 ∧ LEN (k + 6 + 1) = 1000 ∧ LEN (k + 8 + 1) = 1000 ∧ LEN (k + 10 + 1) = 500 ∧ LEN (k + 12 + 1) = 500 := by
  rcases hk with rfl | rfl <;> decide +kernel
def addL (k : Nat) (L : lT) (kd x2 x3 c : Int32) : lT := upL (upL (upL (upL L (k + 4) (L (k + 4) ++ [x2])) (k + 6) (L (k + 6) ++ [x3])) (k + 8) (L (k + 8) ++ [c])) (k + 2) (L (k + 2) ++ [kd])
theorem addT_eq (k : Nat) (I : iT) (kd x2 x3 c : Int32) : mX10_addT (k + 1) I kd x2 x3 c = (mX4_add (k + 4) I x2).bind fun q1 => (mX4_add (k + 6) q1.2 x3).bind fun q2 => (mX4_add (k + 8) q2.2 c).bind fun q3 => (mX4_add (k + 2) q3.2 kd).bind fun q4 => some (q4.1, q4.2) := rfl
section
variable {I : iT} {k : Nat} {L : lT}
theorem addT_ok (h : RS I k L) (hT : tabL k L) (hr : (L (k + 2)).length < 1000) (kd x2 x3 c : Int32) : ∃ I', mX10_addT (k + 1) I kd x2 x3 c = some (nI (L (k + 2)).length, I') ∧ RS I' k (addL k L kd x2 x3 c) ∧ (∀ b, ¬ (k + 2 ≤ b ∧ b ≤ k + 13) → I' b = I b) := by
  obtain ⟨z1, z2, z3, z4, z5, z6⟩ := lenT h.1
  obtain ⟨⟨a1, a2, a3, a4⟩, _⟩ := hT
  obtain ⟨I1, e1, r1, f1⟩ := rs_add h (a := k + 4) (by unfold rowA; omega) (by omega) x2
  obtain ⟨I2, e2, r2, f2⟩ := rs_add r1 (a := k + 6) (by unfold rowA; omega) (by rw [upL_n _ _ (by omega)]; omega) x3
  rw [upL_n _ _ (by omega)] at e2 r2
  obtain ⟨I3, e3, r3, f3⟩ := rs_add r2 (a := k + 8) (by unfold rowA; omega) (by rw [upL_n _ _ (by omega), upL_n _ _ (by omega)]; omega) c
  rw [upL_n _ _ (by omega), upL_n _ _ (by omega)] at e3 r3
  obtain ⟨I4, e4, r4, f4⟩ := rs_add r3 (a := k + 2) (by unfold rowA; omega) (by rw [upL_n _ _ (by omega), upL_n _ _ (by omega), upL_n _ _ (by omega)]; omega) kd
  rw [upL_n _ _ (by omega), upL_n _ _ (by omega), upL_n _ _ (by omega)] at e4 r4
  refine ⟨I4, ?_, r4, fun b q => ?_⟩
  · rw [addT_eq, e1, sb, e2, sb, e3, sb, e4, sb]
  · rw [f4 b (by omega) (by omega), f3 b (by omega) (by omega), f2 b (by omega) (by omega), f1 b (by omega) (by omega)]
theorem addL_2 (kd x2 x3 c : Int32) : addL k L kd x2 x3 c (k + 2) = L (k + 2) ++ [kd] := upL_s _ _ _
theorem addL_4 (kd x2 x3 c : Int32) : addL k L kd x2 x3 c (k + 4) = L (k + 4) ++ [x2] := by unfold addL; rw [upL_n _ _ (by omega), upL_n _ _ (by omega), upL_n _ _ (by omega), upL_s]
theorem addL_6 (kd x2 x3 c : Int32) : addL k L kd x2 x3 c (k + 6) = L (k + 6) ++ [x3] := by unfold addL; rw [upL_n _ _ (by omega), upL_n _ _ (by omega), upL_s]
theorem addL_8 (kd x2 x3 c : Int32) : addL k L kd x2 x3 c (k + 8) = L (k + 8) ++ [c] := by unfold addL; rw [upL_n _ _ (by omega), upL_s]
theorem addL_n (kd x2 x3 c : Int32) {a : Nat} (h : a ≠ k + 2 ∧ a ≠ k + 4 ∧ a ≠ k + 6 ∧ a ≠ k + 8) : addL k L kd x2 x3 c a = L a := by unfold addL; rw [upL_n _ _ h.1, upL_n _ _ h.2.2.2, upL_n _ _ h.2.2.1, upL_n _ _ h.2.1]
theorem addL_ext (kd x2 x3 c : Int32) : EXT k L (addL k L kd x2 x3 c) := by
  refine ⟨fun a h1 h2 => ?_, fun a q => addL_n _ _ _ _ (by omega)⟩
  by_cases e2 : a = k + 2
  · subst e2; exact ⟨_, addL_2 _ _ _ _⟩
  by_cases e4 : a = k + 4
  · subst e4; exact ⟨_, addL_4 _ _ _ _⟩
  by_cases e6 : a = k + 6
  · subst e6; exact ⟨_, addL_6 _ _ _ _⟩
  by_cases e8 : a = k + 8
  · subst e8; exact ⟨_, addL_8 _ _ _ _⟩
  exact ⟨[], by rw [addL_n _ _ _ _ ⟨e2, e4, e6, e8⟩, List.append_nil]⟩
theorem rs_len (h : RS I k L) {a : Nat} (ha : rowA k a) : (L a).length ≤ LEN (a + 1) := (h.2 a ha).2.1
theorem rs_g (h : RS I k L) {a : Nat} (ha : rowA k a) {j : Nat} (hj : j < 2 ^ 31) : mX4_at a I (nI j) = some (gI (L a) j) := by
  rw [rs_at h ha, lat_g hj]
theorem rs_K (h : RS I k L) : (L (k + 2)).length ≤ 1000 := by
  have := rs_len h (a := k + 2) (by unfold rowA; omega)
  rw [(lenT h.1).1] at this
  exact this
theorem rs_N (h : RS I k L) : (L (k + 10)).length ≤ 500 := by
  have := rs_len h (a := k + 10) (by unfold rowA; omega)
  rw [(lenT h.1).2.2.2.2.1] at this
  exact this
theorem make_3 (n : Nat) (x1 x2 x3 x4 : Int32) : mX10_make_3 (k + 1) (n + 1) I x1 x2 x3 x4 = (mX4_size (k + 2) I).bind fun q3 => if q3 ≤ x4 then (if x2 = -1 then mX10_make_84 (k + 1) I x1 x2 x3 1 else (mX4_at (k + 8) I x2).bind fun q4 => mX10_make_84 (k + 1) I x1 x2 x3 (1 + q4)) else (mX4_at (k + 2) I x4).bind fun q5 => if q5 = x1 then (mX4_at (k + 4) I x4).bind fun q6 => if q6 = x2 then (mX4_at (k + 6) I x4).bind fun q7 => if q7 = x3 then some (x4, I) else mX10_make_3 (k + 1) n I x1 x2 x3 (x4 + 1) else mX10_make_3 (k + 1) n I x1 x2 x3 (x4 + 1) else mX10_make_3 (k + 1) n I x1 x2 x3 (x4 + 1) := rfl
theorem make_84 (x1 x2 x3 x4 : Int32) : mX10_make_84 (k + 1) I x1 x2 x3 x4 = if x3 = -1 then (mX10_addT (k + 1) I x1 x2 x3 x4).bind fun q1 => some (q1.1, q1.2) else (mX4_at (k + 8) I x3).bind fun q2 => (mX10_addT (k + 1) I x1 x2 x3 (x4 + q2)).bind fun q1 => some (q1.1, q1.2) := rfl
/-- the T that make finds or makes -/
theorem make_ok (h : RS I k L) (hT : tabL k L) (hr : (L (k + 2)).length < 1000) {kd x2 x3 : Int32} (hk : ¬ ch kd) (h2 : x2 = -1 ∨ ∃ j, j < (L (k + 2)).length ∧ x2 = nI j) (h3 : x3 = -1 ∨ ∃ j, j < (L (k + 2)).length ∧ x3 = nI j) :
    ∃ t I' L', mX10_make (k + 1) I kd x2 x3 = some (nI t, I') ∧ RS I' k L' ∧ tabL k L' ∧ EXT k L L' ∧ t < (L' (k + 2)).length ∧ (L' (k + 2)).length ≤ (L (k + 2)).length + 1 ∧ L' (k + 10) = L (k + 10) ∧ gI (L' (k + 2)) t = kd ∧ gI (L' (k + 4)) t = x2 ∧ gI (L' (k + 6)) t = x3 ∧ (∀ b, ¬ (k + 2 ≤ b ∧ b ≤ k + 13) → I' b = I b) := by
  have loop : ∀ d j n, j + d = (L (k + 2)).length → d < n → (∀ t, t < j → ¬ (gI (L (k + 2)) t = kd ∧ gI (L (k + 4)) t = x2 ∧ gI (L (k + 6)) t = x3)) → ∃ t I' L', mX10_make_3 (k + 1) n I kd x2 x3 (nI j) = some (nI t, I') ∧ RS I' k L' ∧ tabL k L' ∧ EXT k L L' ∧ t < (L' (k + 2)).length ∧ (L' (k + 2)).length ≤ (L (k + 2)).length + 1 ∧ L' (k + 10) = L (k + 10) ∧ gI (L' (k + 2)) t = kd ∧ gI (L' (k + 4)) t = x2 ∧ gI (L' (k + 6)) t = x3 ∧ (∀ b, ¬ (k + 2 ≤ b ∧ b ≤ k + 13) → I' b = I b) := by
    intro d
    induction d with
    | zero =>
      intro j n hj hn hno
      obtain ⟨n, rfl⟩ : ∃ m, n = m + 1 := ⟨n - 1, by omega⟩
      have hz : ∀ c, ∃ I', mX10_addT (k + 1) I kd x2 x3 c = some (nI (L (k + 2)).length, I') ∧ RS I' k (addL k L kd x2 x3 c) ∧ (∀ b, ¬ (k + 2 ≤ b ∧ b ≤ k + 13) → I' b = I b) := fun c => addT_ok h hT hr kd x2 x3 c
      have e84 : ∀ c, mX10_make_84 (k + 1) I kd x2 x3 c = (mX10_addT (k + 1) I kd x2 x3 (c + pz (L (k + 8)) x3)).bind fun q1 => some (q1.1, q1.2) := by
        intro c
        rw [make_84]
        unfold pz
        by_cases q : x3 = -1
        · rw [if_pos q, if_pos q, Int32.add_zero]
        · rw [if_neg q, if_neg q, rs_at h (by unfold rowA; omega), sb]
      have e3 : mX10_make_3 (k + 1) (n + 1) I kd x2 x3 (nI j) = (mX10_addT (k + 1) I kd x2 x3 (1 + pz (L (k + 8)) x2 + pz (L (k + 8)) x3)).bind fun q1 => some (q1.1, q1.2) := by
        rw [make_3, rs_size h (by unfold rowA; omega), sb, if_pos (nI_le (by omega) (by omega))]
        by_cases q : x2 = -1
        · have q0 : pz (L (k + 8)) x2 = 0 := if_pos q
          rw [if_pos q, e84, q0, Int32.add_zero]
        · have q0 : pz (L (k + 8)) x2 = lat (L (k + 8)) x2 := if_neg q
          rw [if_neg q, rs_at h (by unfold rowA; omega), sb, e84, q0]
      obtain ⟨I', g1, g2, g3⟩ := hz (1 + pz (L (k + 8)) x2 + pz (L (k + 8)) x3)
      have hT' := tab_add hT (by omega) hk h2 h3 (fun t ht => hno t (by omega))
      have l4 : (L (k + 4)).length = (L (k + 2)).length := hT.1.1
      have l6 : (L (k + 6)).length = (L (k + 2)).length := hT.1.2.1
      refine ⟨(L (k + 2)).length, I', addL k L kd x2 x3 (1 + pz (L (k + 8)) x2 + pz (L (k + 8)) x3), by rw [e3, g1, sb], g2, ?_, addL_ext _ _ _ _, ?_, ?_, addL_n _ _ _ _ (by omega), ?_, ?_, ?_, g3⟩
      · unfold tabL
        rw [addL_2, addL_4, addL_6, addL_8, addL_n _ _ _ _ (by omega), addL_n _ _ _ _ (by omega)]
        exact hT'
      · rw [addL_2]; simp
      · rw [addL_2]; simp
      · rw [addL_2]; exact gI_e _ _
      · rw [addL_4, ← l4]; exact gI_e _ _
      · rw [addL_6, ← l6]; exact gI_e _ _
    | succ d ih =>
      intro j n hj hn hno
      obtain ⟨n, rfl⟩ : ∃ m, n = m + 1 := ⟨n - 1, by omega⟩
      rw [make_3, rs_size h (by unfold rowA; omega), sb, if_neg (nI_ge (by omega) (by omega)), rs_g h (by unfold rowA; omega) (by omega), sb, nI_1]
      have go : ¬ (gI (L (k + 2)) j = kd ∧ gI (L (k + 4)) j = x2 ∧ gI (L (k + 6)) j = x3) → ∃ t I' L', mX10_make_3 (k + 1) n I kd x2 x3 (nI (j + 1)) = some (nI t, I') ∧ RS I' k L' ∧ tabL k L' ∧ EXT k L L' ∧ t < (L' (k + 2)).length ∧ (L' (k + 2)).length ≤ (L (k + 2)).length + 1 ∧ L' (k + 10) = L (k + 10) ∧ gI (L' (k + 2)) t = kd ∧ gI (L' (k + 4)) t = x2 ∧ gI (L' (k + 6)) t = x3 ∧ (∀ b, ¬ (k + 2 ≤ b ∧ b ≤ k + 13) → I' b = I b) := by
        intro hne
        refine ih (j + 1) n (by omega) (by omega) (fun t ht => ?_)
        by_cases q : t = j
        · subst q; exact hne
        · exact hno t (by omega)
      by_cases q1 : gI (L (k + 2)) j = kd
      · rw [if_pos q1, rs_g h (by unfold rowA; omega) (by omega), sb]
        by_cases q2 : gI (L (k + 4)) j = x2
        · rw [if_pos q2, rs_g h (by unfold rowA; omega) (by omega), sb]
          by_cases q3 : gI (L (k + 6)) j = x3
          · rw [if_pos q3]
            exact ⟨j, I, L, rfl, h, hT, EXT.rfl, by omega, by omega, rfl, q1, q2, q3, fun _ _ => rfl⟩
          · rw [if_neg q3]; exact go (fun e => q3 e.2.2)
        · rw [if_neg q2]; exact go (fun e => q2 e.2.1)
      · rw [if_neg q1]; exact go (fun e => q1 e.1)
  have := loop (L (k + 2)).length 0 LF (by omega) (by have := rs_K h; unfold LF; omega) (fun t ht => by omega)
  rw [nI_0] at this
  exact this
theorem like_13 (n : Nat) (x1 x4 x5 x6 : Int32) : mX10_isLike_13 (k + 1) 143 145 (n + 1) I x1 x4 x5 x6 = (mX4_at (k + 6) I x1).bind fun q1 => if q1 ≤ x6 then some 1 else (mX4_at (k + 10) I (x5 + x6)).bind fun q2 => (mX4_at 143 I (x4 + x6)).bind fun q3 => if q2 = q3 then (mX4_at (k + 12) I (x5 + x6)).bind fun q4 => (mX4_at 145 I (x4 + x6)).bind fun q5 => if q4 = q5 then mX10_isLike_13 (k + 1) 143 145 n I x1 x4 x5 (x6 + 1) else some 0 else some 0 := rfl
/-- is the CHOICE t like the drafts from a place on -/
theorem like_ok (h : RS I k L) {t f m from0 : Nat} (ht : t < 1000) (hf : gI (L (k + 4)) t = nI f) (hm : gI (L (k + 6)) t = nI m) (hfb : f + m ≤ 500) (hfr : from0 + m ≤ 1000) :
    ∃ v, mX10_isLike (k + 1) 143 145 I (nI t) (nI from0) = some v ∧ (v = 0 ∨ v = 1) ∧ (v ≠ 0 ↔ ∀ i, i < m → gI (L (k + 10)) (f + i) = gI (L 143) (from0 + i) ∧ gI (L (k + 12)) (f + i) = gI (L 145) (from0 + i)) := by
  have loop : ∀ d j n, j + d = m → d < n → (∀ i, i < j → gI (L (k + 10)) (f + i) = gI (L 143) (from0 + i) ∧ gI (L (k + 12)) (f + i) = gI (L 145) (from0 + i)) → ∃ v, mX10_isLike_13 (k + 1) 143 145 n I (nI t) (nI from0) (nI f) (nI j) = some v ∧ (v = 0 ∨ v = 1) ∧ (v ≠ 0 ↔ ∀ i, i < m → gI (L (k + 10)) (f + i) = gI (L 143) (from0 + i) ∧ gI (L (k + 12)) (f + i) = gI (L 145) (from0 + i)) := by
    intro d
    induction d with
    | zero =>
      intro j n hj hn hall
      obtain ⟨n, rfl⟩ : ∃ m, n = m + 1 := ⟨n - 1, by omega⟩
      refine ⟨1, ?_, Or.inr rfl, ⟨fun _ i hi => hall i (by omega), fun _ => i10⟩⟩
      rw [like_13, rs_g h (by unfold rowA; omega) (by omega), sb, hm, if_pos (nI_le (by omega) (by omega))]
    | succ d ih =>
      intro j n hj hn hall
      obtain ⟨n, rfl⟩ : ∃ m, n = m + 1 := ⟨n - 1, by omega⟩
      rw [like_13, rs_g h (by unfold rowA; omega) (by omega), sb, hm, if_neg (nI_ge (by omega) (by omega)), nI_add, nI_add, rs_g h (by unfold rowA; omega) (by omega), sb, rs_g h (by unfold rowA; omega) (by omega), sb]
      by_cases q1 : gI (L (k + 10)) (f + j) = gI (L 143) (from0 + j)
      · rw [if_pos q1, rs_g h (by unfold rowA; omega) (by omega), sb, rs_g h (by unfold rowA; omega) (by omega), sb]
        by_cases q2 : gI (L (k + 12)) (f + j) = gI (L 145) (from0 + j)
        · rw [if_pos q2, nI_1]
          refine ih (j + 1) n (by omega) (by omega) (fun i hi => ?_)
          by_cases e : i = j
          · subst e; exact ⟨q1, q2⟩
          · exact hall i (by omega)
        · rw [if_neg q2]
          exact ⟨0, rfl, Or.inl rfl, ⟨fun e => absurd rfl e, fun e => absurd (e j (by omega)).2 q2⟩⟩
      · rw [if_neg q1]
        exact ⟨0, rfl, Or.inl rfl, ⟨fun e => absurd rfl e, fun e => absurd (e j (by omega)).1 q1⟩⟩
  have e0 : mX10_isLike (k + 1) 143 145 I (nI t) (nI from0) = (mX4_at (k + 4) I (nI t)).bind fun q6 => mX10_isLike_13 (k + 1) 143 145 LF I (nI t) (nI from0) q6 0 := rfl
  rw [e0, rs_g h (by unfold rowA; omega) (by omega), sb, hf]
  have := loop m 0 LF (by omega) (by unfold LF; omega) (fun i hi => by omega)
  rw [nI_0] at this
  exact this
theorem mc_89 (n : Nat) (x1 x4 x5 x6 x7 x8 : Int32) : mX10_makeChoice_89 (k + 1) 143 145 (n + 1) I x1 x4 x5 x6 x7 x8 = (mX4_size 143 I).bind fun q1 => if q1 ≤ x8 then (mX10_addT (k + 1) I x1 x6 x5 x7).bind fun q2 => some (q2.1, q2.2) else (mX4_at 143 I x8).bind fun q3 => (mX4_add (k + 10) I q3).bind fun q4 => (mX4_at 145 q4.2 x8).bind fun q5 => (mX4_add (k + 12) q4.2 q5).bind fun q6 => (mX4_at 145 q6.2 x8).bind fun q7 => (mX4_at (k + 8) q6.2 q7).bind fun q8 => mX10_makeChoice_89 (k + 1) 143 145 n q6.2 x1 x4 x5 x6 (x7 + q8) (x8 + 1) := rfl
theorem mc_12 (n : Nat) (x1 x4 x5 x6 : Int32) : mX10_makeChoice_12 (k + 1) 143 145 (n + 1) I x1 x4 x5 x6 = (mX4_size (k + 2) I).bind fun q9 => if q9 ≤ x6 then (mX4_size (k + 10) I).bind fun q10 => mX10_makeChoice_89 (k + 1) 143 145 LF I x1 x4 x5 q10 1 x4 else (mX4_at (k + 2) I x6).bind fun q11 => if q11 = x1 then (mX4_at (k + 6) I x6).bind fun q12 => if q12 = x5 then (mX10_isLike (k + 1) 143 145 I x6 x4).bind fun q13 => if q13 = 0 then mX10_makeChoice_12 (k + 1) 143 145 n I x1 x4 x5 (x6 + 1) else some (x6, I) else mX10_makeChoice_12 (k + 1) 143 145 n I x1 x4 x5 (x6 + 1) else mX10_makeChoice_12 (k + 1) 143 145 n I x1 x4 x5 (x6 + 1) := rfl
end
