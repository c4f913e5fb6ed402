/-! TWO CHANNELS BECOME ONE, in both (pure) -/
section
variable {R : lT} {I B : iT}
theorem qc_len {np nm : Nat} {l : List Nat} (hnm : nm ≤ 600) (hnd : l.Nodup) (hlt : ∀ m ∈ l, m < nm) : l.length < 1000 := by
  have := nd_len nm l hnd hlt
  omega
theorem jn_c {np nm a b : Nat} {Da Ua Db Ub : List Nat} (hN : RN I R) (hL : CHL np nm R) (h150 : (R 150).length = np) (ha : a < np) (hb : b < np) (hab : a ≠ b) (q1 : QCc R (2 * a) Da) (q2 : QCc R (2 * a + 1) Ua) (q3 : QCc R (2 * b) Db) (q4 : QCc R (2 * b + 1) Ub) (n1 : Da.Nodup ∧ ∀ m ∈ Da, m < nm) (n2 : Ua.Nodup ∧ ∀ m ∈ Ua, m < nm) (n3 : Db.Nodup ∧ ∀ m ∈ Db, m < nm) (n4 : Ub.Nodup ∧ ∀ m ∈ Ub, m < nm)
    (d1 : ∀ m ∈ Db, ¬ m ∈ Da) (d2 : ∀ m ∈ Ub, ¬ m ∈ Da) (d3 : ∀ m ∈ Ua, ¬ m ∈ Da) (d4 : ∀ m ∈ Ua, ¬ m ∈ Ub) (d5 : ∀ m ∈ Db, ¬ m ∈ Ub) : ∃ I' R', mX1_join I (nI a) (nI b) = some I' ∧ RN I' R' ∧ QCc R' (2 * a) (Da ++ Db) ∧ QCc R' (2 * a + 1) (Ub ++ Ua) ∧ (∀ r' l', r' ≠ 2 * a → r' ≠ 2 * a + 1 → r' ≠ 2 * b + 1 → QCc R r' l' → (∀ m ∈ l', ¬ m ∈ Da ∧ ¬ m ∈ Ub) → QCc R' r' l') ∧ R' 150 = (R 150).set b (nI a) ∧ (∀ c, c ≠ 150 → c ≠ 152 → c ≠ 154 → c ≠ 156 → c ≠ 162 → R' c = R c) ∧ (∀ c, (R' c).length = (R c).length) ∧ ∀ q, ¬ (150 ≤ q ∧ q ≤ 163) → I' q = I q := by
  have hm := hL.2.1
  have b1 := qc_len (np := np) hm n1.1 n1.2
  have b2 := qc_len (np := np) hm n2.1 n2.2
  have b3 := qc_len (np := np) hm n3.1 n3.2
  have b4 := qc_len (np := np) hm n4.1 n4.2
  have hnp := hL.1
  obtain ⟨I1, R1, e1, e2, e3, e4, e5, e6, e7⟩ := ap_c hN hL (r1 := 2 * a) (r2 := 2 * b) (by omega) (by omega) (by omega) q1 q3 b1 b3 n1.2 n1.1 d1
  have hL1 : CHL np nm R1 := ⟨hL.1, hL.2.1, by rw [e6]; exact hL.2.2.1, by rw [e6]; exact hL.2.2.2.1, by rw [e6]; exact hL.2.2.2.2.1, by rw [e6]; exact hL.2.2.2.2.2.1, by rw [e6]; exact hL.2.2.2.2.2.2.1, by rw [e6]; exact hL.2.2.2.2.2.2.2⟩
  have q4' := e4 (2 * b + 1) Ub (by omega) q4 d2
  have q2' := e4 (2 * a + 1) Ua (by omega) q2 d3
  obtain ⟨I2, R2, f1, f2, f3, f4, f5, f6, f7⟩ := ap_c e2 hL1 (r1 := 2 * b + 1) (r2 := 2 * a + 1) (by omega) (by omega) (by omega) q4' q2' b4 b2 n4.2 n4.1 d4
  have q1'' := f4 (2 * a) (Da ++ Db) (by omega) e3 (fun m hm => by
    rcases List.mem_append.mp hm with z | z
    · exact fun w => d2 m w z
    · exact d5 m z)
  have l2 : ∀ c, (R2 c).length = (R c).length := fun c => by rw [f6, e6]
  obtain ⟨I3, g1, g2, g3⟩ := rn_put f2 (a := 152) (by unfold rnA; omega) (j := 2 * a + 1) (by omega) (gI (R2 152) (2 * b + 1))
  obtain ⟨I4, i1, i2, i3⟩ := rn_put g2 (a := 154) (by unfold rnA; omega) (j := 2 * a + 1) (by omega) (gI (R2 154) (2 * b + 1))
  rw [upL_n _ _ (by omega)] at i2
  obtain ⟨I5, j1, j2, j3⟩ := rn_put i2 (a := 156) (by unfold rnA; omega) (j := 2 * a + 1) (by omega) (gI (R2 156) (2 * b + 1))
  rw [upL_n _ _ (by omega), upL_n _ _ (by omega)] at j2
  obtain ⟨I6, k1, k2, k3⟩ := rn_put j2 (a := 150) (by unfold rnA; omega) (j := b) (by omega) (nI a)
  rw [upL_n _ _ (by omega), upL_n _ _ (by omega), upL_n _ _ (by omega), f5 150 (by omega) (by omega) (by omega) (by omega), e5 150 (by omega) (by omega) (by omega) (by omega)] at k2
  have x152 : (R2 152).length = 2 * np := by rw [l2]; exact hL.2.2.1
  have x154 : (R2 154).length = 2 * np := by rw [l2]; exact hL.2.2.2.1
  have x156 : (R2 156).length = 2 * np := by rw [l2]; exact hL.2.2.2.2.1
  refine ⟨I6, _, ?_, k2, ?_, ?_, fun r' l' w1 w2 w3 hq hd => ?_, ?_, fun c w1 w2 w3 w4 w5 => ?_, fun c => ?_, fun q w => by rw [k3 q (by omega) (by omega), j3 q (by omega) (by omega), i3 q (by omega) (by omega), g3 q (by omega) (by omega), f7 q (by omega), e7 q (by omega)]⟩
  · have z0 : (2 : Int32) * nI a + 0 = nI (2 * a) := r2s a 0
    have z1 : (2 : Int32) * nI a + 1 = nI (2 * a + 1) := r2s a 1
    have z2 : (2 : Int32) * nI b + 0 = nI (2 * b) := r2s b 0
    have z3 : (2 : Int32) * nI b + 1 = nI (2 * b + 1) := r2s b 1
    unfold mX1_join
    rw [if_neg (fun z => hab ((nI_eq (by omega) (by omega)).mp z)), z0, z1, z2, z3, e1, sb, f1, sb, rn_g f2 (by unfold rnA; omega) (by omega), sb, g1, sb, rn_g g2 (by unfold rnA; omega) (by omega), sb, upL_n _ _ (by omega), i1, sb, rn_g i2 (by unfold rnA; omega) (by omega), sb, upL_n _ _ (by omega), upL_n _ _ (by omega), j1, sb, k1, sb]
  · refine ⟨?_, ?_, fun y z hz => ?_⟩
    all_goals simp only [upL, Nat.reduceEqDiff, if_true, if_false, ite_true, ite_false]
    · rw [gI_sn (by omega)]; exact q1''.1
    · rw [gI_sn (by omega)]; exact q1''.2.1
    · rw [gI_sn (by omega)]; exact q1''.2.2 y z hz
  · refine ⟨?_, ?_, fun y z hz => ?_⟩
    all_goals simp only [upL, Nat.reduceEqDiff, if_true, if_false, ite_true, ite_false]
    · rw [gI_se (by omega)]; exact f3.1
    · rw [gI_se (by omega)]; exact f3.2.1
    · rw [gI_se (by omega)]; exact f3.2.2 y z hz
  · have h1 := e4 r' l' w1 hq (fun m hm => (hd m hm).1)
    have h2 := f4 r' l' w3 h1 (fun m hm => (hd m hm).2)
    refine ⟨?_, ?_, fun y z hz => ?_⟩
    all_goals simp only [upL, Nat.reduceEqDiff, if_true, if_false, ite_true, ite_false]
    · rw [gI_sn w2]; exact h2.1
    · rw [gI_sn w2]; exact h2.2.1
    · rw [gI_sn w2]; exact h2.2.2 y z hz
  · rw [upL_s]
  · rw [upL_n _ _ w1, upL_n _ _ w4, upL_n _ _ w3, upL_n _ _ w2, f5 c w2 w3 w4 w5, e5 c w2 w3 w4 w5]
  · by_cases c1 : c = 150
    · subst c1; rw [upL_s, List.length_set]
    · rw [upL_n _ _ c1]
      by_cases c2 : c = 156
      · subst c2; rw [upL_s, List.length_set, l2]
      · rw [upL_n _ _ c2]
        by_cases c3 : c = 154
        · subst c3; rw [upL_s, List.length_set, l2]
        · rw [upL_n _ _ c3]
          by_cases c4 : c = 152
          · subst c4; rw [upL_s, List.length_set, l2]
          · rw [upL_n _ _ c4, l2]
/-- the reference's rows -/
theorem jn_r {nm a b : Nat} {Da Ua Db Ub : List Nat} (ha : a < 80) (hb : b < 80) (hab : a ≠ b) (hnm : nm ≤ 700) (q1 : QCr B (2 * a) Da) (q2 : QCr B (2 * a + 1) Ua) (q3 : QCr B (2 * b) Db) (q4 : QCr B (2 * b + 1) Ub) (n1 : Da.Nodup ∧ ∀ m ∈ Da, m < nm) (n4 : Ub.Nodup ∧ ∀ m ∈ Ub, m < nm)
    (d1 : ∀ m ∈ Db, ¬ m ∈ Da) (d2 : ∀ m ∈ Ub, ¬ m ∈ Da) (d3 : ∀ m ∈ Ua, ¬ m ∈ Da) (d4 : ∀ m ∈ Ua, ¬ m ∈ Ub) (d5 : ∀ m ∈ Db, ¬ m ∈ Ub) : ∃ B1 B2, mX12_append B (nI (2 * a)) (nI (2 * a)) (nI (2 * b)) = some B1 ∧ mX12_append B1 (nI (2 * a + 1)) (nI (2 * b + 1)) (nI (2 * a + 1)) = some B2 ∧ QCr B2 (2 * a) (Da ++ Db) ∧ QCr B2 (2 * a + 1) (Ub ++ Ua) ∧ (∀ r' l', r' ≠ 2 * a → r' ≠ 2 * a + 1 → QCr B r' l' → (∀ m ∈ l', ¬ m ∈ Da ∧ ¬ m ∈ Ub) → QCr B2 r' l') ∧ ∀ q i, ¬ ((q = 221 ∨ q = 222) ∧ (i = 2 * a ∨ i = 2 * a + 1)) → q ≠ 225 → B2 q i = B q i := by
  obtain ⟨B1, e1, e2, e3, e4⟩ := ap_r (t := 2 * a) (r1 := 2 * a) (r2 := 2 * b) (by omega) (by omega) (by omega) q1 q3 n1.2 hnm n1.1 d1
  have q4' := e3 (2 * b + 1) Ub (by omega) q4 d2
  have q2' := e3 (2 * a + 1) Ua (by omega) q2 d3
  obtain ⟨B2, f1, f2, f3, f4⟩ := ap_r (t := 2 * a + 1) (r1 := 2 * b + 1) (r2 := 2 * a + 1) (by omega) (by omega) (by omega) q4' q2' n4.2 hnm n4.1 d4
  refine ⟨B1, B2, e1, f1, f3 (2 * a) _ (by omega) e2 (fun m hm => ?_), f2, fun r' l' w1 w2 hq hd => f3 r' l' w2 (e3 r' l' w1 hq (fun m hm => (hd m hm).1)) (fun m hm => (hd m hm).2), fun q i w1 w2 => by rw [f4 q i (by omega) w2, e4 q i (by omega) w2]⟩
  rcases List.mem_append.mp hm with z | z
  · exact fun w => d2 m w z
  · exact d5 m z
end
