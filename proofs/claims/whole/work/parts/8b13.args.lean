/-! ARGS, in both (pure) -/
/-- how many of these PARAMS are CHANNELS -/
def cch (ps : Gm) : Nat := (ps.filter (fun q => decide (q.1 = 2))).length
def GAc (k p a : Nat) (L : lT) (sc : Nat → Int32) (ps : Gm) (vc : List Int32) : Prop := ∀ (c a0 f : Nat) (I : iT) (R : lT) (F : fT), a = a0 + c → RK I k L → RN I R → F 148 12 = k → (∀ i, i < 85 → gI (R 176) (p * 85 + i) = sc i) → f < 12 → gI (L (k + 43)) f = nI (c + ps.length) → (∀ (j : Nat) (q : Nat × Nat), ps[j]? = some q → (q.1 = 1 ∧ gI (L (k + 45)) (f * 4 + (c + j)) = -1) ∨ (q.1 = 2 ∧ gI (L (k + 45)) (f * 4 + (c + j)) ≠ -1)) → c + ps.length ≤ 4 → (R 178).length = c → ∀ (m : Nat) (x2 : Int32), ∃ I' R', mX6_gatherArgs_35 (m + ps.length + 1) I F (nI p) x2 (nI f) (nI a0) (nI c) = some I' ∧ RK I' k L ∧ RN I' R' ∧ R' 178 = R 178 ++ vc ∧ (∀ a, a ≠ 178 → R' a = R a) ∧ (∀ q, q ≠ 178 → q ≠ 179 → q ≠ k + 27 → q ≠ k + 28 → I' q = I q)
def GAr (p n : Nat) (B0 : iT) (sr : Nat → Int32) (x : Int32) (ps : Gm) (vr : List Int32) : Prop := ∀ (c cnt : Nat) (B : iT), (∀ q, 188 ≤ q → q ≤ 205 → B q = B0 q) → (∀ i, i < 85 → B 218 (128 * p + sg n i) = sr i) → B 186 76 = nI 0 → c + ps.length ≤ 4 → ∀ (m : Nat) (x2 x3 x4 : Int32), ∃ B', mX12_tells_9 (m + ps.length + 1) B (nI p) x2 x3 x4 (nI c) (nI cnt) x = mX12_tells_105 LF B' (nI p) x2 x3 x4 (nI (c + ps.length)) (nI (cnt + cch ps)) 0 ∧ (∀ j, j < ps.length → B' 230 (c + j) = gI vr j) ∧ (∀ j, j < c → B' 230 j = B 230 j) ∧ B' 186 76 = nI 0 ∧ (∀ q i, ¬ (q = 186 ∧ i = 76) → q ≠ 229 → q ≠ 230 → B' q i = B q i)
theorem in4 {x : Nat} (h : x < 4) : inb (nI x) 4 := vp_in_nI h (by omega)
theorem cl4 {x : Nat} (h : x < 4) : (nI x).toNatClampNeg = x := nI_clamp (by omega)
theorem fx4 (f j : Nat) : nI f * 4 + nI j = nI (f * 4 + j) := by
  have : nI f * (4 : Int32) = nI (f * 4) := pk_mul f 4
  rw [this, nI_add]
theorem gI_c0 (x : Int32) (l : List Int32) : gI (x :: l) 0 = x := rfl
theorem gI_cs (x : Int32) (l : List Int32) (j : Nat) : gI (x :: l) (j + 1) = gI l j := rfl
section
variable {k p n : Nat} {L : lT} {B0 : iT} {Q : Nat → Prop} {sc sr : Nat → Int32}
theorem pt_ok {I : iT} (hK : RK I k L) {f j : Nat} (hf : f < 12) (hj : j < 4) : mX0_paramT k I (nI f) (nI j) = some (gI (L (k + 45)) (f * 4 + j)) := by
  have hk := hK.1
  unfold mX0_paramT mX0_paramT_24
  rw [if_neg (nI_not0 (by omega)), if_neg (show ¬ (12 : Int32) ≤ nI f from nI_ge (b := 12) (by omega) (by omega)), if_neg (nI_not0 (by omega)), if_neg (show ¬ (4 : Int32) ≤ nI j from nI_ge (b := 4) (by omega) (by omega)), if_neg (by decide), fx4, rk_g hK (by unfold rkA; omega) (by omega), sb]
theorem ar_nil (x : Int32) (a : Nat) (hx : x = -1) : GAc k p a L sc [] [] ∧ GAr p n B0 sr x [] [] := by
  refine ⟨fun c a0 f I R F h1 hK hN hF hs hf h43 h45 h4 h178 m x2 => ?_, fun c cnt B hB hs h76 h4 m x2 x3 x4 => ?_⟩
  · refine ⟨I, R, ?_, hK, hN, by rw [List.append_nil], fun _ _ => rfl, fun _ _ _ _ _ => rfl⟩
    have hk := hK.1
    rw [mX6_gatherArgs_35, hF, rk_g hK (by unfold rkA; omega) (by omega), sb, h43, if_pos]
    exact nI_le (Nat.le_refl _) (by show c + 0 < _; simp at h4; omega)
  · refine ⟨B, ?_, fun j hj => (by simp at hj), fun _ _ => rfl, h76, fun _ _ _ _ _ => rfl⟩
    rw [mX12_tells_9, if_pos hx]
    rfl
theorem ar_num (hk : k = 12 ∨ k = 73) (hp : p < 80) (hn : n ≤ 4) (hL : (L (k + 19)).length ≤ 1000) (hL9 : (L (k + 59)).length ≤ 500) {Γ : Gm} {b a e root f1 d t : Nat} {ps : Gm} {vc vr : List Int32} (hG : Γ.length ≤ 85) (hs0 : ∀ j, nsG Γ j → sc j = sr j) (hb : b < 2800) (ha : a < (L (k + 59)).length) (h188 : B0 188 b = 55) (h189 : B0 189 b = nI e) (h59 : gI (L (k + 59)) a = nI root) (hE : ER k n (nsG Γ) L B0 Q d e root f1 28) (hc : GAc k p (a + 1) L sc ps vc) (hr : GAr p n B0 sr (B0 191 b) ps vr) : ∃ v, GAc k p a L sc ((1, t) :: ps) (v :: vc) ∧ GAr p n B0 sr (nI b) ((1, t) :: ps) (v :: vr) := by
  obtain ⟨v, hvc, hvr⟩ := no_ok (s := sc) hk hp hn hL hE
  have lt : ∀ j, nsG Γ j → j < 85 := fun j hj => by obtain ⟨t, ht⟩ := hj; have := (List.getElem?_eq_some_iff.mp ht).1; omega
  refine ⟨v, fun c a0 f I R F h1 hK hN hF hs hf h43 h45 h4 h178 m x2 => ?_, fun c cnt B hB hs h76 h4 m x2 x3 x4 => ?_⟩
  · simp only [List.length_cons] at h43 h4
    obtain ⟨I1, b1, b2, b3, b4⟩ := hvc I R F hK hN hF (fun j hj => hs j (lt j hj))
    obtain ⟨I2, d1, d2, d3⟩ := rn_add b3 (a := 178) (by unfold rnA; omega) (by rw [h178]; show c < 4; omega) v
    have hK2 := rk_keep b2 (I' := I2) (fun a w1 w2 => d3 a (by omega) (by omega))
    have e45 := h45 0 (1, t) rfl
    rw [Nat.add_zero] at e45
    have e45' : gI (L (k + 45)) (f * 4 + c) = -1 := by
      rcases e45 with ⟨_, y⟩ | ⟨y, _⟩
      · exact y
      · exact absurd y (show (1 : Nat) ≠ 2 by omega)
    obtain ⟨I', R', g1, g2, g3, g4, g5, g6⟩ := hc (c + 1) a0 f I2 _ F (by omega) hK2 d2 hF (fun i hi => by rw [upL_n _ _ (by omega)]; exact hs i hi) hf (by rw [h43]; congr 1; omega) (fun j q hq => by have := h45 (j + 1) q hq; rw [show c + 1 + j = c + (j + 1) by omega]; exact this) (by omega) (by rw [upL_s, List.length_append, h178]; rfl) m x2
    refine ⟨I', R', ?_, g2, g3, by rw [g4, upL_s, List.append_assoc]; rfl, fun a' ha' => by rw [g5 a' ha', upL_n _ _ ha'], fun q w1 w2 w3 w4 => by rw [g6 q w1 w2 w3 w4, d3 q w1 w2, b4 q w3 w4]⟩
    show mX6_gatherArgs_35 (m + ps.length + 1 + 1) I F (nI p) x2 (nI f) (nI a0) (nI c) = _
    rw [mX6_gatherArgs_35, hF, rk_g hK (by unfold rkA; omega) (by omega), sb, h43, if_neg (nI_ge (by omega) (by omega)), nI_add, rk_g hK (by unfold rkA; omega) (by omega), sb, pt_ok hK hf (by omega), sb, e45', if_pos rfl, ← h1, h59, b1, sb]
    unfold mX6_gatherArgs_103
    show ((mX4_add 178 I1 v).bind _) = _
    rw [d1, sb, nI_1]
    exact g1
  · simp only [List.length_cons] at h4
    obtain ⟨B1, b1, b2, b3, b4, b5⟩ := hvr B ⟨hB, fun j hj => by rw [hs j (lt j hj), hs0 j hj]⟩ h76
    have hB2 : ∀ q, 188 ≤ q → q ≤ 205 → a_u2 B1 230 c v q = B0 q := fun q w1 w2 => by rw [← b2.1 q w1 w2]; exact a_u2_r _ _ (by omega)
    obtain ⟨B', g1, g2, g3, g4, g5⟩ := hr (c + 1) cnt (a_u2 B1 230 c v) hB2 (fun i hi => by rw [a_u2_n _ _ (by omega), b5 _ _ (by omega) (by omega)]; exact hs i hi) (by rw [a_u2_n _ _ (by omega)]; exact b3) (by omega) m x2 x3 x4
    have ecc : cch ((1, t) :: ps) = cch ps := rfl
    refine ⟨B', ?_, fun j hj => ?_, fun j hj => by rw [g3 j (by omega), a_u2_n _ _ (by omega), b5 _ _ (by omega) (by omega)], g4, fun q i w1 w2 w3 => by rw [g5 q i w1 w2 w3, a_u2_n _ _ (by omega), b5 q i w1 w2]⟩
    · have c28 := cl28 hb
      have g188 : B 188 (nI b).toNatClampNeg = 55 := by rw [congrArg (B 188) c28, hB 188 (by omega) (by omega)]; exact h188
      have g189 : B 189 (nI b).toNatClampNeg = nI e := by rw [congrArg (B 189) c28, hB 189 (by omega) (by omega)]; exact h189
      have g188' : ¬ a_u2 B1 230 c v 188 (nI b).toNatClampNeg = 54 := by rw [congrArg (a_u2 B1 230 c v 188) c28, hB2 188 (by omega) (by omega), h188]; decide
      have g191 : a_u2 B1 230 c v 191 (nI b).toNatClampNeg = B0 191 b := by rw [congrArg (a_u2 B1 230 c v 191) c28, hB2 191 (by omega) (by omega)]
      show mX12_tells_9 (m + ps.length + 1 + 1) B (nI p) x2 x3 x4 (nI c) (nI cnt) (nI b) = mX12_tells_105 LF B' (nI p) x2 x3 x4 (nI (c + (ps.length + 1))) (nI (cnt + cch ((1, t) :: ps))) 0
      rw [mX12_tells_9, if_neg (nIm (by omega)), if_pos (in28 hb), if_pos g188, if_pos (in28 hb), g189, b1, sb]
      unfold mX12_tells_54 mX12_tells_87
      show (if inb (nI c) 4 then if inb (nI b) 2800 then if (a_u2 B1 230 (nI c).toNatClampNeg v) 188 (nI b).toNatClampNeg = 54 then _ else _ else none else none) = _
      rw [if_pos (in4 (by omega)), if_pos (in28 hb), cl4 (by omega), if_neg g188', if_pos (in28 hb), g191, nI_1, show nI cnt + 0 = nI cnt from nI_add cnt 0, ecc, show c + (ps.length + 1) = c + 1 + ps.length by omega]
      exact g1
    · cases j with
      | zero => rw [Nat.add_zero, g3 c (by omega), a_u2_s, gI_c0]
      | succ j => rw [gI_cs, ← g2 j (by simpa using hj), show c + (j + 1) = c + 1 + j by omega]
theorem ar_chn (hk : k = 12 ∨ k = 73) (hp : p < 80) (hn : n ≤ 4) (hL9 : (L (k + 59)).length ≤ 500) {b a i t : Nat} {ps : Gm} {vc vr : List Int32} (hi : i < 85) (hb : b < 2800) (ha : a < (L (k + 59)).length) (h188 : B0 188 b = 54) (h189 : B0 189 b = nI (sg n i)) (h59 : gI (L (k + 59)) a = nI i) (hc : GAc k p (a + 1) L sc ps vc) (hr : GAr p n B0 sr (B0 191 b) ps vr) : GAc k p a L sc ((2, t) :: ps) (sc i :: vc) ∧ GAr p n B0 sr (nI b) ((2, t) :: ps) (sr i :: vr) := by
  refine ⟨fun c a0 f I R F h1 hK hN hF hs hf h43 h45 h4 h178 m x2 => ?_, fun c cnt B hB hs h76 h4 m x2 x3 x4 => ?_⟩
  · simp only [List.length_cons] at h43 h4
    obtain ⟨I2, d1, d2, d3⟩ := rn_add hN (a := 178) (by unfold rnA; omega) (by rw [h178]; show c < 4; omega) (sc i)
    have hK2 := rk_keep hK (I' := I2) (fun a w1 w2 => d3 a (by omega) (by omega))
    have e45 := h45 0 (2, t) rfl
    rw [Nat.add_zero] at e45
    have e45' : gI (L (k + 45)) (f * 4 + c) ≠ -1 := by
      rcases e45 with ⟨y, _⟩ | ⟨_, y⟩
      · exact absurd y (show (2 : Nat) ≠ 1 by omega)
      · exact y
    obtain ⟨I', R', g1, g2, g3, g4, g5, g6⟩ := hc (c + 1) a0 f I2 _ F (by omega) hK2 d2 hF (fun i hi => by rw [upL_n _ _ (by omega)]; exact hs i hi) hf (by rw [h43]; congr 1; omega) (fun j q hq => by have := h45 (j + 1) q hq; rw [show c + 1 + j = c + (j + 1) by omega]; exact this) (by omega) (by rw [upL_s, List.length_append, h178]; rfl) m x2
    refine ⟨I', R', ?_, g2, g3, by rw [g4, upL_s, List.append_assoc]; rfl, fun a' ha' => by rw [g5 a' ha', upL_n _ _ ha'], fun q w1 w2 w3 w4 => by rw [g6 q w1 w2 w3 w4, d3 q w1 w2]⟩
    show mX6_gatherArgs_35 (m + ps.length + 1 + 1) I F (nI p) x2 (nI f) (nI a0) (nI c) = _
    rw [mX6_gatherArgs_35, hF, rk_g hK (by unfold rkA; omega) (by omega), sb, h43, if_neg (nI_ge (by omega) (by omega)), nI_add, rk_g hK (by unfold rkA; omega) (by omega), sb, pt_ok hK hf (by omega), sb, if_neg e45', ← h1, h59, slo_ok hN hp hi, sb, hs i hi]
    unfold mX6_gatherArgs_103
    rw [d1, sb, nI_1]
    exact g1
  · simp only [List.length_cons] at h4
    have hsg := sg_spec n i
    have hB2 : ∀ q, 188 ≤ q → q ≤ 205 → a_u2 B 230 c (sr i) q = B0 q := fun q w1 w2 => by rw [← hB q w1 w2]; exact a_u2_r _ _ (by omega)
    obtain ⟨B', g1, g2, g3, g4, g5⟩ := hr (c + 1) (cnt + 1) (a_u2 B 230 c (sr i)) hB2 (fun i hi => by rw [a_u2_n _ _ (by omega)]; exact hs i hi) (by rw [a_u2_n _ _ (by omega)]; exact h76) (by omega) m x2 x3 x4
    have ecc : cch ((2, t) :: ps) = cch ps + 1 := rfl
    refine ⟨B', ?_, fun j hj => ?_, fun j hj => by rw [g3 j (by omega), a_u2_n _ _ (by omega)], g4, fun q i w1 w2 w3 => by rw [g5 q i w1 w2 w3, a_u2_n _ _ (by omega)]⟩
    · have c28 := cl28 hb
      have g188 : B 188 (nI b).toNatClampNeg = 54 := by rw [congrArg (B 188) c28, hB 188 (by omega) (by omega)]; exact h188
      have g189 : B 189 (nI b).toNatClampNeg = nI (sg n i) := by rw [congrArg (B 189) c28, hB 189 (by omega) (by omega)]; exact h189
      have g188' : a_u2 B 230 c (sr i) 188 (nI b).toNatClampNeg = 54 := by rw [congrArg (a_u2 B 230 c (sr i) 188) c28, hB2 188 (by omega) (by omega), h188]
      have g191 : a_u2 B 230 c (sr i) 191 (nI b).toNatClampNeg = B0 191 b := by rw [congrArg (a_u2 B 230 c (sr i) 191) c28, hB2 191 (by omega) (by omega)]
      show mX12_tells_9 (m + ps.length + 1 + 1) B (nI p) x2 x3 x4 (nI c) (nI cnt) (nI b) = mX12_tells_105 LF B' (nI p) x2 x3 x4 (nI (c + (ps.length + 1))) (nI (cnt + cch ((2, t) :: ps))) 0
      rw [mX12_tells_9, if_neg (nIm (by omega)), if_pos (in28 hb), if_neg (by rw [g188]; decide), if_pos (in28 hb), g189, val_ok hp (by omega), sb, hs i hi]
      unfold mX12_tells_54 mX12_tells_87
      rw [if_pos (in4 (by omega)), if_pos (in28 hb), cl4 (by omega), if_pos g188', if_pos (in28 hb), g191, nI_1, nI_1, ecc, show c + (ps.length + 1) = c + 1 + ps.length by omega, show cnt + (cch ps + 1) = cnt + 1 + cch ps by omega]
      exact g1
    · cases j with
      | zero => rw [Nat.add_zero, g3 c (by omega), a_u2_s, gI_c0]
      | succ j => rw [gI_cs, ← g2 j (by simpa using hj), show c + (j + 1) = c + 1 + j by omega]
end
