/-! makeChoice (pure) -/
theorem gI_drop (l : List Int32) (a j : Nat) : gI (l.drop a) j = gI l (a + j) := by
  unfold gI
  rw [List.getD_eq_getElem?_getD, List.getD_eq_getElem?_getD, List.getElem?_drop]
section
variable {k : Nat}
theorem addT_ok2 {I : iT} {L : lT} (h : RS I k L) (a1 : (L (k + 4)).length = (L (k + 2)).length) (a2 : (L (k + 6)).length = (L (k + 2)).length) (a3 : (L (k + 8)).length = (L (k + 2)).length) (hr : (L (k + 2)).length < 1000) (kd x2 x3 c : Int32) : ∃ I', mX10_addT (k + 1) I kd x2 x3 c = some (nI (L (k + 2)).length, I') ∧ RS I' k (addL k L kd x2 x3 c) ∧ (∀ b, ¬ (k + 2 ≤ b ∧ b ≤ k + 13) → I' b = I b) := by
  obtain ⟨z1, z2, z3, z4, z5, z6⟩ := lenT h.1
  obtain ⟨I1, e1, r1, f1⟩ := rs_add h (a := k + 4) (by unfold rowA; omega) (by omega) x2
  obtain ⟨I2, e2, r2, f2⟩ := rs_add r1 (a := k + 6) (by unfold rowA; omega) (by rw [upL_n _ _ (by omega)]; omega) x3
  rw [upL_n _ _ (by omega)] at e2 r2
  obtain ⟨I3, e3, r3, f3⟩ := rs_add r2 (a := k + 8) (by unfold rowA; omega) (by rw [upL_n _ _ (by omega), upL_n _ _ (by omega)]; omega) c
  rw [upL_n _ _ (by omega), upL_n _ _ (by omega)] at e3 r3
  obtain ⟨I4, e4, r4, f4⟩ := rs_add r3 (a := k + 2) (by unfold rowA; omega) (by rw [upL_n _ _ (by omega), upL_n _ _ (by omega), upL_n _ _ (by omega)]; omega) kd
  rw [upL_n _ _ (by omega), upL_n _ _ (by omega), upL_n _ _ (by omega)] at e4 r4
  refine ⟨I4, ?_, r4, fun b q => ?_⟩
  · rw [addT_eq, e1, sb, e2, sb, e3, sb, e4, sb]
  · rw [f4 b (by omega) (by omega), f3 b (by omega) (by omega), f2 b (by omega) (by omega), f1 b (by omega) (by omega)]
def brL (k : Nat) (L : lT) (ns ts : List Int32) : lT := upL (upL L (k + 10) (L (k + 10) ++ ns)) (k + 12) (L (k + 12) ++ ts)
theorem brL_10 (L : lT) (ns ts : List Int32) : brL k L ns ts (k + 10) = L (k + 10) ++ ns := by unfold brL; rw [upL_n _ _ (by omega), upL_s]
theorem brL_12 (L : lT) (ns ts : List Int32) : brL k L ns ts (k + 12) = L (k + 12) ++ ts := by unfold brL; rw [upL_s]
theorem brL_n (L : lT) (ns ts : List Int32) {a : Nat} (h : a ≠ k + 10 ∧ a ≠ k + 12) : brL k L ns ts a = L a := by unfold brL; rw [upL_n _ _ h.2, upL_n _ _ h.1]
theorem brL_nil (L : lT) : brL k L [] [] = L := by
  funext a
  by_cases e : a = k + 10
  · subst e; rw [brL_10, List.append_nil]
  by_cases e2 : a = k + 12
  · subst e2; rw [brL_12, List.append_nil]
  exact brL_n _ _ _ ⟨e, e2⟩
theorem brL_up (L : lT) (ns ts : List Int32) (x y : Int32) : upL (upL (brL k L ns ts) (k + 10) (L (k + 10) ++ ns ++ [x])) (k + 12) (L (k + 12) ++ ts ++ [y]) = brL k L (ns ++ [x]) (ts ++ [y]) := by
  funext a
  by_cases e : a = k + 10
  · subst e; rw [brL_10, upL_n _ _ (by omega), upL_s, List.append_assoc]
  by_cases e2 : a = k + 12
  · subst e2; rw [brL_12, upL_s, List.append_assoc]
  rw [upL_n _ _ e2, upL_n _ _ e, brL_n _ _ _ ⟨e, e2⟩, brL_n _ _ _ ⟨e, e2⟩]
/-- what makeChoice answers -/
def mcR (k : Nat) (I : iT) (L : lT) (kd : Int32) (from0 m : Nat) (o : Option (Int32 × iT)) : Prop := ∃ t f I' L', o = some (nI t, I') ∧ RS I' k L' ∧ tabL k L' ∧ EXT k L L' ∧ t < (L' (k + 2)).length ∧ (L' (k + 2)).length ≤ (L (k + 2)).length + 1 ∧ (L' (k + 10)).length ≤ (L (k + 10)).length + m ∧ gI (L' (k + 2)) t = kd ∧ gI (L' (k + 4)) t = nI f ∧ gI (L' (k + 6)) t = nI m ∧ f + m ≤ (L' (k + 10)).length ∧ (∀ i, i < m → gI (L' (k + 10)) (f + i) = gI (L 143) (from0 + i) ∧ gI (L' (k + 12)) (f + i) = gI (L 145) (from0 + i)) ∧ (∀ b, ¬ (k + 2 ≤ b ∧ b ≤ k + 13) → I' b = I b)
theorem mc_add {I : iT} {L : lT} (h : RS I k L) (hT : tabL k L) (hr : (L (k + 2)).length < 1000) {kd : Int32} (hk : ch kd) {from0 m : Nat} (hm : (L 143).length = from0 + m) (hm2 : (L 145).length = from0 + m) (hsz : from0 + m ≤ 73) (hbr : (L (k + 10)).length + m ≤ 500) (hv : ∀ i, i < m → ∃ j, j < (L (k + 2)).length ∧ gI (L 145) (from0 + i) = nI j)
    (hn : ∀ t, t < (L (k + 2)).length → gI (L (k + 2)) t = kd → gI (L (k + 6)) t = nI m → ∀ f, gI (L (k + 4)) t = nI f → f + m ≤ (L (k + 10)).length → ¬ ∀ i, i < m → gI (L (k + 10)) (f + i) = gI (L 143) (from0 + i) ∧ gI (L (k + 12)) (f + i) = gI (L 145) (from0 + i)) :
    mcR k I L kd from0 m (mX10_makeChoice_89 (k + 1) 143 145 LF I kd (nI from0) (nI m) (nI (L (k + 10)).length) 1 (nI from0)) := by
  obtain ⟨z1, z2, z3, z4, z5, z6⟩ := lenT h.1
  have hk12 := h.1
  have t4 : (L (k + 12)).length = (L (k + 10)).length := hT.1.2.2.2
  have loop : ∀ d j n (I1 : iT) (ns ts : List Int32), j + d = m → d < n → ns.length = j → ts.length = j → (∀ i, i < j → gI ns i = gI (L 143) (from0 + i) ∧ gI ts i = gI (L 145) (from0 + i)) → RS I1 k (brL k L ns ts) → (∀ b, ¬ (k + 2 ≤ b ∧ b ≤ k + 13) → I1 b = I b) →
      mcR k I L kd from0 m (mX10_makeChoice_89 (k + 1) 143 145 n I1 kd (nI from0) (nI m) (nI (L (k + 10)).length) (1 + psum (L (k + 8)) (L (k + 12) ++ ts) (L (k + 10)).length j) (nI (from0 + j))) := by
    intro d
    induction d with
    | zero =>
      intro j n I1 ns ts hj hn' hns hts hall hR hF
      obtain ⟨n, rfl⟩ : ∃ m, n = m + 1 := ⟨n - 1, by omega⟩
      have hjm : j = m := by omega
      subst hjm
      obtain ⟨I', g1, g2, g3⟩ := addT_ok2 hR (by rw [brL_n _ _ _ (by omega), brL_n _ _ _ (by omega)]; exact hT.1.1) (by rw [brL_n _ _ _ (by omega), brL_n _ _ _ (by omega)]; exact hT.1.2.1) (by rw [brL_n _ _ _ (by omega), brL_n _ _ _ (by omega)]; exact hT.1.2.2.1) (by rw [brL_n _ _ _ (by omega)]; exact hr) kd (nI (L (k + 10)).length) (nI j) (1 + psum (L (k + 8)) (L (k + 12) ++ ts) (L (k + 10)).length j)
      rw [brL_n _ _ _ (by omega)] at g1
      have hT' := tab_addC hT (by omega) (by omega) hk (ns := ns) (ts := ts) (by omega) (by omega) (fun i hi => by rw [(hall i (by omega)).2]; exact hv i (by omega)) (fun t ht q1 q2 f q3 q4 q5 => by
        rw [hns] at q2 q4 q5
        refine hn t ht q1 q2 f q3 q4 (fun i hi => ?_)
        rw [← (hall i hi).1, ← (hall i hi).2]
        exact q5 i hi)
      rw [hns] at hT'
      have l4 : (L (k + 4)).length = (L (k + 2)).length := hT.1.1
      have l6 : (L (k + 6)).length = (L (k + 2)).length := hT.1.2.1
      refine ⟨(L (k + 2)).length, (L (k + 10)).length, I', _, ?_, g2, ?_, ⟨fun a q1 q2 => ?_, fun a q => ?_⟩, ?_, ?_, ?_, ?_, ?_, ?_, ?_, ?_, fun b q => ?_⟩
      · rw [mc_89, rs_size hR (by unfold rowA; omega), sb, brL_n _ _ _ (by omega), if_pos (nI_le (by omega) (by omega)), g1, sb]
      · unfold tabL
        rw [addL_2, addL_4, addL_6, addL_8, addL_n _ _ _ _ (by omega), addL_n _ _ _ _ (by omega), brL_10, brL_12, brL_n _ _ _ (by omega), brL_n _ _ _ (by omega), brL_n _ _ _ (by omega), brL_n _ _ _ (by omega)]
        exact hT'
      · obtain ⟨r, er⟩ := (addL_ext (k := k) (L := brL k L ns ts) kd (nI (L (k + 10)).length) (nI j) (1 + psum (L (k + 8)) (L (k + 12) ++ ts) (L (k + 10)).length j)).1 a q1 q2
        rw [er]
        by_cases e : a = k + 10
        · subst e; rw [brL_10, List.append_assoc]; exact ⟨_, rfl⟩
        by_cases e2 : a = k + 12
        · subst e2; rw [brL_12, List.append_assoc]; exact ⟨_, rfl⟩
        rw [brL_n _ _ _ ⟨e, e2⟩]; exact ⟨_, rfl⟩
      · rw [addL_n _ _ _ _ (by omega), brL_n _ _ _ (by omega)]
      · rw [addL_2, brL_n _ _ _ (by omega)]; simp
      · rw [addL_2, brL_n _ _ _ (by omega)]; simp
      · rw [addL_n _ _ _ _ (by omega), brL_10, List.length_append]; omega
      · rw [addL_2, brL_n _ _ _ (by omega)]; exact gI_e _ _
      · rw [addL_4, brL_n _ _ _ (by omega), ← l4]; exact gI_e _ _
      · rw [addL_6, brL_n _ _ _ (by omega), ← l6]; exact gI_e _ _
      · rw [addL_n _ _ _ _ (by omega), brL_10, List.length_append]; omega
      · intro i hi
        rw [addL_n _ _ _ _ (by omega), addL_n _ _ _ _ (by omega), brL_10, brL_12, gI_r]
        have e := gI_r (L (k + 12)) ts i
        rw [t4] at e
        rw [e]
        exact hall i hi
      · rw [g3 b q, hF b q]
    | succ d ih =>
      intro j n I1 ns ts hj hn' hns hts hall hR hF
      obtain ⟨n, rfl⟩ : ∃ m, n = m + 1 := ⟨n - 1, by omega⟩
      obtain ⟨I2, a1, a2, a3⟩ := rs_add hR (a := k + 10) (by unfold rowA; omega) (by rw [brL_10, List.length_append]; omega) (gI (L 143) (from0 + j))
      rw [brL_10] at a1 a2
      obtain ⟨I3, b1, b2, b3⟩ := rs_add a2 (a := k + 12) (by unfold rowA; omega) (by rw [upL_n _ _ (by omega), brL_12, List.length_append]; omega) (gI (L 145) (from0 + j))
      rw [upL_n _ _ (by omega), brL_12] at b1 b2
      rw [brL_up] at b2
      have s1 : mX4_at 143 I1 (nI (from0 + j)) = some (gI (L 143) (from0 + j)) := by rw [rs_g hR (by unfold rowA; omega) (by omega), brL_n _ _ _ (by omega)]
      have s2 : mX4_at 145 I2 (nI (from0 + j)) = some (gI (L 145) (from0 + j)) := by rw [rs_g a2 (by unfold rowA; omega) (by omega), upL_n _ _ (by omega), brL_n _ _ _ (by omega)]
      have s3 : mX4_at 145 I3 (nI (from0 + j)) = some (gI (L 145) (from0 + j)) := by rw [rs_g b2 (by unfold rowA; omega) (by omega), brL_n _ _ _ (by omega)]
      have s4 : mX4_at (k + 8) I3 (gI (L 145) (from0 + j)) = some (lat (L (k + 8)) (gI (L 145) (from0 + j))) := by rw [rs_at b2 (by unfold rowA; omega), brL_n _ _ _ (by omega)]
      rw [mc_89, rs_size hR (by unfold rowA; omega), sb, brL_n _ _ _ (by omega), if_neg (nI_ge (by omega) (by omega)), s1, sb, a1, sb, s2, sb, b1, sb, s3, sb, s4, sb, nI_1, Int32.add_assoc]
      have hps : psum (L (k + 8)) (L (k + 12) ++ (ts ++ [gI (L 145) (from0 + j)])) (L (k + 10)).length (j + 1) = psum (L (k + 8)) (L (k + 12) ++ ts) (L (k + 10)).length j + lat (L (k + 8)) (gI (L 145) (from0 + j)) := by
        have e1 : gI (L (k + 12) ++ (ts ++ [gI (L 145) (from0 + j)])) ((L (k + 10)).length + j) = gI (L 145) (from0 + j) := by
          rw [← t4, gI_r, ← hts]; exact gI_e _ _
        have e2 : ∀ i, i ≤ j → psum (L (k + 8)) (L (k + 12) ++ (ts ++ [gI (L 145) (from0 + j)])) (L (k + 10)).length i = psum (L (k + 8)) (L (k + 12) ++ ts) (L (k + 10)).length i := by
          intro i
          induction i with
          | zero => intro _; rfl
          | succ i ih2 =>
            intro hi
            rw [psum, psum, ih2 (by omega), ← List.append_assoc, gI_l _ (by rw [List.length_append]; omega)]
        rw [psum, e1, e2 j (Nat.le_refl _)]
      rw [← hps]
      refine ih (j + 1) n I3 _ _ (by omega) (by omega) (by rw [List.length_append, hns]; rfl) (by rw [List.length_append, hts]; rfl) (fun i hi => ?_) b2 (fun b q => ?_)
      · by_cases e : i = j
        · subst e
          have u1 := gI_e ns (gI (L 143) (from0 + i))
          have u2 := gI_e ts (gI (L 145) (from0 + i))
          rw [hns] at u1
          rw [hts] at u2
          exact ⟨u1, u2⟩
        · rw [gI_l _ (by omega), gI_l _ (by omega)]
          exact hall i (by omega)
      · rw [b3 b (by omega) (by omega), a3 b (by omega) (by omega), hF b q]
  have := loop m 0 LF I [] [] (by omega) (by unfold LF; omega) rfl rfl (fun i hi => by omega) (by rw [brL_nil]; exact h) (fun _ _ => rfl)
  rw [Nat.add_zero, psum, Int32.add_zero] at this
  exact this
theorem mc_ok {I : iT} {L : lT} (h : RS I k L) (hT : tabL k L) (hr : (L (k + 2)).length < 1000) {kd : Int32} (hk : ch kd) {from0 m : Nat} (hm : (L 143).length = from0 + m) (hm2 : (L 145).length = from0 + m) (hsz : from0 + m ≤ 73) (hbr : (L (k + 10)).length + m ≤ 500) (hv : ∀ i, i < m → ∃ j, j < (L (k + 2)).length ∧ gI (L 145) (from0 + i) = nI j) :
    mcR k I L kd from0 m (mX10_makeChoice (k + 1) 143 145 I kd (nI from0)) := by
  have hk12 := h.1
  have loop : ∀ d j n, j + d = (L (k + 2)).length → d < n → (∀ t, t < j → gI (L (k + 2)) t = kd → gI (L (k + 6)) t = nI m → ∀ f, gI (L (k + 4)) t = nI f → f + m ≤ (L (k + 10)).length → ¬ ∀ i, i < m → gI (L (k + 10)) (f + i) = gI (L 143) (from0 + i) ∧ gI (L (k + 12)) (f + i) = gI (L 145) (from0 + i)) →
      mcR k I L kd from0 m (mX10_makeChoice_12 (k + 1) 143 145 n I kd (nI from0) (nI m) (nI j)) := by
    intro d
    induction d with
    | zero =>
      intro j n hj hn hno
      obtain ⟨n, rfl⟩ : ∃ m, n = m + 1 := ⟨n - 1, by omega⟩
      rw [mc_12, rs_size h (by unfold rowA; omega), sb, if_pos (nI_le (by omega) (by omega)), rs_size h (by unfold rowA; omega), sb]
      exact mc_add h hT hr hk hm hm2 hsz hbr hv (fun t ht => hno t (by omega))
    | succ d ih =>
      intro j n hj hn hno
      obtain ⟨n, rfl⟩ : ∃ m, n = m + 1 := ⟨n - 1, by omega⟩
      rw [mc_12, rs_size h (by unfold rowA; omega), sb, if_neg (nI_ge (by omega) (by omega)), rs_g h (by unfold rowA; omega) (by omega), sb, nI_1]
      have go : ¬ (gI (L (k + 2)) j = kd ∧ gI (L (k + 6)) j = nI m ∧ ∃ f, gI (L (k + 4)) j = nI f ∧ f + m ≤ (L (k + 10)).length ∧ ∀ i, i < m → gI (L (k + 10)) (f + i) = gI (L 143) (from0 + i) ∧ gI (L (k + 12)) (f + i) = gI (L 145) (from0 + i)) → mcR k I L kd from0 m (mX10_makeChoice_12 (k + 1) 143 145 n I kd (nI from0) (nI m) (nI (j + 1))) := by
        intro hne
        refine ih (j + 1) n (by omega) (by omega) (fun t ht => ?_)
        by_cases q : t = j
        · subst q
          intro q1 q2 f q3 q4 q5
          exact hne ⟨q1, q2, f, q3, q4, q5⟩
        · exact hno t (by omega)
      by_cases q1 : gI (L (k + 2)) j = kd
      · rw [if_pos q1, rs_g h (by unfold rowA; omega) (by omega), sb]
        by_cases q2 : gI (L (k + 6)) j = nI m
        · rw [if_pos q2]
          obtain ⟨f, m', c1, c2, c3, c4⟩ := hT.2.2.1 j (by omega) (by rw [q1]; exact hk)
          have hN := rs_N h
          have em : m' = m := (nI_eq (by omega) (by omega)).mp (c2.symm.trans q2)
          subst em
          obtain ⟨v, v1, v2, v3⟩ := like_ok h (t := j) (f := f) (m := m') (from0 := from0) (by omega) c1 c2 (by omega) (by omega)
          rw [v1, sb]
          by_cases q3 : v = 0
          · rw [if_pos q3]
            refine go (fun e => ?_)
            obtain ⟨_, _, f2, e1, e2, e3⟩ := e
            have ef : f2 = f := (nI_eq (by omega) (by omega)).mp (e1.symm.trans c1)
            subst ef
            exact v3.mpr e3 q3
          · rw [if_neg q3]
            exact ⟨j, f, I, L, rfl, h, hT, EXT.rfl, by omega, by omega, by omega, q1, c1, c2, c3, v3.mp q3, fun _ _ => rfl⟩
        · rw [if_neg q2]; exact go (fun e => q2 e.2.1)
      · rw [if_neg q1]; exact go (fun e => q1 e.1)
  have e0 : mX10_makeChoice (k + 1) 143 145 I kd (nI from0) = (mX4_size 143 I).bind fun q14 => mX10_makeChoice_12 (k + 1) 143 145 LF I kd (nI from0) (q14 - nI from0) 0 := rfl
  rw [e0, rs_size h (by unfold rowA; omega), sb, hm, pk_sub (by omega), Nat.add_sub_cancel_left]
  have := loop (L (k + 2)).length 0 LF (by omega) (by have := rs_K h; unfold LF; omega) (fun t ht => by omega)
  rw [nI_0] at this
  exact this
end
