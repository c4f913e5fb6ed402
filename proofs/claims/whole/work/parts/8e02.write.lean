/-! print: the class writes a text (pure) -/
def frP (k : Nat) (I I' : iT) : Prop := ∀ q, q ≠ 4 → q ≠ 5 → ¬ (k + 14 ≤ q ∧ q ≤ k + 17) → I' q = I q
def fr45 (I I' : iT) : Prop := ∀ q, q ≠ 4 → q ≠ 5 → I' q = I q
theorem len5 : LEN (4 + 1) = 4000 := by decide +kernel
theorem lenSt {k : Nat} (hk : k = 12 ∨ k = 73) : LEN (k + 1 + 13 + 1) = 201 ∧ LEN (k + 1 + 15 + 1) = 201 := by
  rcases hk with rfl | rfl <;> exact ⟨by decide +kernel, by decide +kernel⟩
theorem strL_eq {s : Nat} {S : List Int32} (hS : strB s = S) : strLen s = nI S.length := by
  unfold strLen
  rw [hS]
theorem strA_eq {s j : Nat} {S : List Int32} (hS : strB s = S) (hj : j < 2 ^ 31) : strAt s (nI j) = S.getD j 0 := by
  unfold strAt
  rw [hS, nI_clamp hj]
theorem getD_lt {S : List Int32} {j : Nat} (hjl : j < S.length) : S[j]? = some (S.getD j 0) := by
  rw [List.getD_eq_getElem?_getD, List.getElem?_eq_getElem hjl]
  rfl
theorem at_z {s j n : Nat} {S : List Int32} (hS : strB s = S) (I1 : iT) (hj : S.length ≤ j) (hj2 : j < 2 ^ 31) : mX4_addText_2 4 s (n + 1) I1 (nI j) = some I1 := by
  rw [mX4_addText_2, strL_eq hS, if_pos (nI_le hj hj2)]
theorem at_s {s j n : Nat} {S : List Int32} (hS : strB s = S) {I1 I2 : iT} {v : Int32} (hjl : j < S.length) (h2 : S.length < 2 ^ 31) (h : mX4_add 4 I1 (S.getD j 0) = some (v, I2)) : mX4_addText_2 4 s (n + 1) I1 (nI j) = mX4_addText_2 4 s n I2 (nI (j + 1)) := by
  have e : ¬ strLen s ≤ nI j := by rw [strL_eq hS]; exact nI_ge hjl h2
  have e2 : inb (nI j) (strLen s).toNatClampNeg := by
    have : (strLen s).toNatClampNeg = S.length := by rw [strL_eq hS]; exact nI_clamp h2
    rw [this]
    exact vp_in_nI hjl h2
  rw [mX4_addText_2, if_neg e, if_pos e2, strA_eq hS (by omega), h, sb, nI_1]
theorem at_go {o : List Int32} {s : Nat} {S : List Int32} (hS : strB s = S) (hl : o.length + S.length ≤ 4000) : ∀ (d j n : Nat) (I1 : iT), j + d = S.length → d < n → rowIs I1 4 (o ++ S.take j) → ∃ I', mX4_addText_2 4 s n I1 (nI j) = some I' ∧ rowIs I' 4 (o ++ S) ∧ fr45 I1 I' := by
  intro d
  induction d with
  | zero =>
    intro j n I1 hj hn hR
    obtain ⟨n, rfl⟩ : ∃ y, n = y + 1 := ⟨n - 1, by omega⟩
    rw [List.take_of_length_le (by omega)] at hR
    exact ⟨I1, at_z hS I1 (by omega) (by omega), hR, fun _ _ _ => rfl⟩
  | succ d ih =>
    intro j n I1 hj hn hR
    obtain ⟨n, rfl⟩ : ∃ y, n = y + 1 := ⟨n - 1, by omega⟩
    have hjl : j < S.length := by omega
    have hlen : (o ++ S.take j).length < LEN (4 + 1) := by
      rw [len5, List.length_append, List.length_take]
      omega
    obtain ⟨I2, a1, a2⟩ := row_add hR hlen (S.getD j 0)
    have e4 : o ++ S.take j ++ [S.getD j 0] = o ++ S.take (j + 1) := by
      rw [List.take_succ, getD_lt hjl, List.append_assoc]
      rfl
    rw [e4] at a2
    obtain ⟨I', b1, b2, b3⟩ := ih (j + 1) n I2 (by omega) (by omega) a2.1
    refine ⟨I', ?_, b2, fun q w1 w2 => by rw [b3 q w1 w2, a2.2 q w1 (by omega)]⟩
    rw [at_s hS hjl (by omega) a1]
    exact b1
theorem at_ok {I : iT} {o : List Int32} (h : rowIs I 4 o) {s : Nat} {S : List Int32} (hS : strB s = S) (hl : o.length + S.length ≤ 4000) : ∃ I', mX4_addText 4 s I = some I' ∧ rowIs I' 4 (o ++ S) ∧ fr45 I I' := by
  have hLF : S.length < LF := by unfold LF; omega
  have h0 : rowIs I 4 (o ++ S.take 0) := by rw [List.take_zero, List.append_nil]; exact h
  obtain ⟨I', a1, a2, a3⟩ := at_go hS hl S.length 0 LF I (Nat.zero_add _) hLF h0
  refine ⟨I', ?_, a2, a3⟩
  unfold mX4_addText
  rw [nI_0] at a1
  exact a1
theorem str2 : strB 1000002 = [32, 125] := by decide +kernel
theorem str3 : strB 1000003 = [32, 123, 32] := by decide +kernel
theorem str4 : strB 1000004 = [32, 44, 32] := by decide +kernel
theorem str5 : strB 1000005 = [32, 58, 32] := by decide +kernel
theorem str6 : strB 1000006 = [101, 110, 100] := by decide +kernel
theorem str7 : strB 1000007 = [32, 46, 32] := by decide +kernel
section
variable {k : Nat} {L : lT} {I : iT}
theorem rk_keep2 (h : RK I k L) {I' : iT} (hI : ∀ q, (k + 2 ≤ q ∧ q ≤ k + 13) ∨ (k + 19 ≤ q ∧ q ≤ k + 60) → I' q = I q) : RK I' k L := by
  obtain ⟨y1, y2, V, y3, y4⟩ := h
  refine ⟨y1, fun a ha => (y2 a ha).keep (hI _ ?_) (hI _ ?_), V, y3.keep (hI _ (by omega)) (hI _ (by omega)), y4⟩ <;> unfold rkA at ha <;> omega
theorem rk_45 (h : RK I k L) {I' : iT} (hI : fr45 I I') : RK I' k L := by
  have hk := h.1
  exact rk_keep2 h (fun q w => hI q (by omega) (by omega))
theorem rk_frP (h : RK I k L) {I' : iT} (hI : frP k I I') : RK I' k L := by
  have hk := h.1
  exact rk_keep2 h (fun q w => hI q (by omega) (by omega) (by omega))
theorem kbrs (h : RK I k L) {t kd m : Nat} (ht : t < 2 ^ 31) (hk : gI (L (k + 2)) t = nI kd) (hkd : kd = 43 ∨ kd = 38) (hm : gI (L (k + 6)) t = nI m) : mX10_branches (k + 1) I (nI t) = some (nI m) := by
  have h2 : mX4_at (k + 1 + 1) I (nI t) = some (gI (L (k + 2)) t) := rk_g h (a := k + 2) (by unfold rkA; omega) ht
  have h6 : mX4_at (k + 1 + 5) I (nI t) = some (gI (L (k + 6)) t) := rk_g h (a := k + 6) (by unfold rkA; omega) ht
  unfold mX10_branches
  rw [h2, sb, isCh_any, sb, if_pos (show gI (L (k + 2)) t = 43 ∨ gI (L (k + 2)) t = 38 from by rw [hk]; exact hkd.elim (fun z => Or.inl (by rw [z]; rfl)) (fun z => Or.inr (by rw [z]; rfl))), if_neg i10, h6, sb, hm]
theorem kbn (h : RK I k L) {t f : Nat} (ht : t < 2 ^ 31) (hf : gI (L (k + 4)) t = nI f) (j : Nat) (hj : f + j < 2 ^ 31) : mX10_branchName (k + 1) I (nI t) (nI j) = some (gI (L (k + 10)) (f + j)) := by
  have h2 : mX4_at (k + 1 + 3) I (nI t) = some (gI (L (k + 4)) t) := rk_g h (a := k + 4) (by unfold rkA; omega) ht
  have h6 : mX4_at (k + 1 + 9) I (nI (f + j)) = some (gI (L (k + 10)) (f + j)) := rk_g h (a := k + 10) (by unfold rkA; omega) hj
  unfold mX10_branchName
  rw [h2, sb, hf, nI_add, h6, sb]
theorem kbt (h : RK I k L) {t f : Nat} (ht : t < 2 ^ 31) (hf : gI (L (k + 4)) t = nI f) (j : Nat) (hj : f + j < 2 ^ 31) : mX10_branchT (k + 1) I (nI t) (nI j) = some (gI (L (k + 12)) (f + j)) := by
  have h2 : mX4_at (k + 1 + 3) I (nI t) = some (gI (L (k + 4)) t) := rk_g h (a := k + 4) (by unfold rkA; omega) ht
  have h6 : mX4_at (k + 1 + 11) I (nI (f + j)) = some (gI (L (k + 12)) (f + j)) := rk_g h (a := k + 12) (by unfold rkA; omega) hj
  unfold mX10_branchT
  rw [h2, sb, hf, nI_add, h6, sb]
/-- a NAME, ' : ', and the child -/
theorem wn_ok {w : List Nat} (hw : isN w) {t f j : Nat} (ht : t < 2 ^ 31) (hf : gI (L (k + 4)) t = nI f) (hj : f + j < 2 ^ 31) : ∀ (d x n : Nat) (I : iT) (o : List Int32), x + d = w.length → d < n → RK I k L → rowIs I 4 o → o.length + d + 3 ≤ 4000 → ∃ I', mX10_writeBranch_60 (k + 1) 4 n I (nI t) (nI j) (nI (cN w)) (nI x) = some (gI (L (k + 12)) (f + j), I') ∧ rowIs I' 4 (o ++ (chs (w.drop x) ++ [32, 58, 32])) ∧ fr45 I I' := by
  have h6 := hw.2.2
  intro d
  induction d with
  | zero =>
    intro x n I o hx hn hK ho hl
    obtain ⟨n, rfl⟩ : ∃ y, n = y + 1 := ⟨n - 1, by omega⟩
    obtain ⟨I1, a1, a2, a3⟩ := at_ok ho str5 (by show o.length + 3 ≤ 4000; omega)
    refine ⟨I1, ?_, ?_, a3⟩
    · rw [mX10_writeBranch_60, lin_ok hw, sb, if_pos (nI_le (by omega) (by omega)), a1, sb, kbt (rk_45 hK a3) ht hf j hj, sb]
    · rw [List.drop_eq_nil_of_le (by omega)]
      exact a2
  | succ d ih =>
    intro x n I o hx hn hK ho hl
    obtain ⟨n, rfl⟩ : ∃ y, n = y + 1 := ⟨n - 1, by omega⟩
    have hxl : x < w.length := by omega
    obtain ⟨I1, a1, a2⟩ := row_add ho (by rw [len5]; omega) (nI (96 + w.getD x 0))
    have f1 : fr45 I I1 := fun q w1 w2 => a2.2 q w1 (by omega)
    obtain ⟨I2, b1, b2, b3⟩ := ih (x + 1) n I1 (o ++ [nI (96 + w.getD x 0)]) (by omega) (by omega) (rk_45 hK f1) a2.1 (by rw [List.length_append, List.length_singleton]; omega)
    refine ⟨I2, ?_, ?_, fun q w1 w2 => (b3 q w1 w2).trans (f1 q w1 w2)⟩
    · rw [mX10_writeBranch_60, lin_ok hw, sb, if_neg (nI_ge hxl (by omega)), let_ok hw (show x < 6 by omega), if_pos hxl, sb, a1, sb, nI_1]
      exact b1
    · have e : o ++ (chs (w.drop x) ++ [32, 58, 32]) = o ++ [nI (96 + w.getD x 0)] ++ (chs (w.drop (x + 1)) ++ [32, 58, 32]) := by
        have e2 : chs (w.drop x) = nI (96 + w.getD x 0) :: chs (w.drop (x + 1)) := by
          rw [List.drop_eq_getElem_cons hxl]
          have e3 : w[x] = w.getD x 0 := by
            rw [List.getD_eq_getElem?_getD, List.getElem?_eq_getElem hxl]
            rfl
          rw [e3]
          rfl
        rw [e2, List.append_assoc]
        rfl
      rw [e]
      exact b2
/-- what stands ahead of the next child of t at a turn -/
def WA (k : Nat) (L : lT) (t j : Nat) (c : Int32) (a : List Int32) : Prop := ∀ (I : iT) (o : List Int32), RK I k L → rowIs I 4 o → o.length + a.length ≤ 4000 → ∃ I1, mX10_writeAhead (k + 1) 4 I (nI t) (nI j) = some (c, I1) ∧ rowIs I1 4 (o ++ a) ∧ fr45 I I1
/-- c rounds of the loop write s and take t away -/
def CWt (k : Nat) (L : lT) (t j c dp : Nat) (s : List Int32) : Prop := ∀ (I : iT) (P U o : List Int32) (n i : Nat) (x1 : Int32), RK I k L → rowIs I (k + 1 + 13) (P ++ [nI t]) → rowIs I (k + 1 + 15) (U ++ [nI j]) → P.length = U.length → P.length + dp ≤ 200 → rowIs I 4 o → o.length + s.length ≤ 4000 → i + c ≤ 400 → ∃ I', mX10_write_34 (k + 1) 4 (n + c) I x1 (nI i) = mX10_write_34 (k + 1) 4 n I' x1 (nI (i + c)) ∧ rowIs I' (k + 1 + 13) P ∧ rowIs I' (k + 1 + 15) U ∧ rowIs I' 4 (o ++ s) ∧ frP k I I'
theorem it_head {t j : Nat} (ht : t < 2 ^ 31) (hj : j < 2 ^ 30) {I1 : iT} {P U o' : List Int32} {n i : Nat} {c x1 : Int32} (hK : RK I k L) (h13 : rowIs I (k + 1 + 13) (P ++ [nI t])) (h15 : rowIs I (k + 1 + 15) (U ++ [nI j])) (hPU : P.length = U.length) (hP : P.length < 1000) (hi : i < 400) (hw : mX10_writeAhead (k + 1) 4 I (nI t) (nI j) = some (c, I1)) (ho : rowIs I1 4 o') (hf : fr45 I I1) : ∃ I2, rowIs I2 (k + 1 + 13) (P ++ [nI t]) ∧ rowIs I2 (k + 1 + 15) (U ++ [nI (j + 1)]) ∧ rowIs I2 4 o' ∧ frP k I I2 ∧ mX10_write_34 (k + 1) 4 (n + 1) I x1 (nI i) = (if c = -1 then (mX4_cut (k + 1 + 13) I2 (nI P.length)).bind fun q9 => (mX4_cut (k + 1 + 15) q9 (nI P.length)).bind fun q10 => mX10_write_34 (k + 1) 4 n q10 x1 (nI (i + 1)) else (mX4_add (k + 1 + 13) I2 c).bind fun q7 => (mX4_add (k + 1 + 15) q7.2 0).bind fun q8 => mX10_write_34 (k + 1) 4 n q8.2 x1 (nI (i + 1))) := by
  have hk := hK.1
  have h13' : rowIs I1 (k + 1 + 13) (P ++ [nI t]) := h13.keep (hf _ (by omega) (by omega)) (hf _ (by omega) (by omega))
  have h15' : rowIs I1 (k + 1 + 15) (U ++ [nI j]) := h15.keep (hf _ (by omega) (by omega)) (hf _ (by omega) (by omega))
  obtain ⟨I2, b1, b2⟩ := row_bump h15' (nI P.length) 1
  have e1 : lbump (U ++ [nI j]) (nI P.length) 1 = U ++ [nI (j + 1)] := by
    rw [lbump_nI _ (by omega), hPU, gI_e, nI_1]
    exact set_mid U [] (nI j) (nI (j + 1))
  rw [e1] at b2
  have hsz : mX4_size (k + 1 + 13) I = some (nI (P.length + 1)) := by rw [row_size h13, List.length_append, List.length_singleton]
  have hm1 : nI (P.length + 1) - 1 = nI P.length := nI_pred _
  have a13 : mX4_at (k + 1 + 13) I (nI P.length) = some (nI t) := by rw [row_g h13 (by omega), gI_e]
  have a15 : mX4_at (k + 1 + 15) I (nI P.length) = some (nI j) := by rw [row_g h15 (by omega), hPU, gI_e]
  refine ⟨I2, h13'.keep (b2.2 _ (by omega) (by omega)) (b2.2 _ (by omega) (by omega)), b2.1, ho.keep (b2.2 _ (by omega) (by omega)) (b2.2 _ (by omega) (by omega)), fun q w1 w2 w3 => by rw [b2.2 q (by omega) (by omega), hf q w1 w2], ?_⟩
  rw [mX10_write_34, if_neg (show ¬ (400 : Int32) ≤ nI i from nI_ge (b := 400) hi (by omega)), hsz, sb, if_neg (nI_nle (by omega) (by omega)), sb, hm1, a13, sb, a15, sb, hw, sb]
  show ((mX4_bump (k + 1 + 15) I1 (nI P.length) 1).bind _) = _
  rw [b1, sb]
  unfold mX10_write_143
  rw [nI_1]
theorem cw_end {t j : Nat} (ht : t < 2 ^ 31) (hj : j < 2 ^ 30) {a : List Int32} (h : WA k L t j (-1) a) : CWt k L t j 1 1 a := by
  intro I P U o n i x1 hK h13 h15 hPU hP ho hl hi
  have hk := hK.1
  obtain ⟨I1, a1, a2, a3⟩ := h I o hK ho hl
  obtain ⟨I2, b1, b2, b3, b4, b5⟩ := it_head (n := n) (x1 := x1) ht hj hK h13 h15 hPU (by omega) (show i < 400 by omega) a1 a2 a3
  obtain ⟨I3, c1, c2⟩ := row_cut b1 (nI P.length)
  have e1 : lcut (P ++ [nI t]) (nI P.length) = P := by
    unfold lcut
    rw [if_neg (nI_not0 (by omega)), nI_clamp (by omega), List.take_left]
  have e2 : lcut (U ++ [nI (j + 1)]) (nI P.length) = U := by
    unfold lcut
    rw [if_neg (nI_not0 (by omega)), nI_clamp (by omega), hPU, List.take_left]
  rw [e1] at c2
  obtain ⟨I4, d1, d2⟩ := row_cut (b2.keep (c2.2 _ (by omega) (by omega)) (c2.2 _ (by omega) (by omega))) (nI P.length)
  rw [e2] at d2
  refine ⟨I4, ?_, c2.1.keep (d2.2 _ (by omega) (by omega)) (d2.2 _ (by omega) (by omega)), d2.1, b3.keep (by rw [d2.2 _ (by omega) (by omega), c2.2 _ (by omega) (by omega)]) (by rw [d2.2 _ (by omega) (by omega), c2.2 _ (by omega) (by omega)]), fun q w1 w2 w3 => by rw [d2.2 q (by omega) (by omega), c2.2 q (by omega) (by omega), b4 q w1 w2 w3]⟩
  rw [b5, if_pos rfl, c1, sb, d1, sb]
theorem cw_child {t j tc c1 c2 d1 d2 dp : Nat} (ht : t < 2 ^ 31) (hj : j < 2 ^ 30) (htc : tc < 2 ^ 31) {a s1 s2 : List Int32} (h : WA k L t j (nI tc) a) (h1 : CWt k L tc 0 c1 d1 s1) (h2 : CWt k L t (j + 1) c2 d2 s2) (hd0 : 1 ≤ d1) (hd1 : d1 + 1 ≤ dp) (hd2 : d2 ≤ dp) : CWt k L t j (1 + c1 + c2) dp (a ++ (s1 ++ s2)) := by
  intro I P U o n i x1 hK h13 h15 hPU hP ho hl hi
  have hk := hK.1
  obtain ⟨l13, l15⟩ := lenSt hk
  rw [List.length_append, List.length_append] at hl
  obtain ⟨I1, a1, a2, a3⟩ := h I o hK ho (by omega)
  obtain ⟨I2, b1, b2, b3, b4, b5⟩ := it_head (n := n + c2 + c1) (x1 := x1) ht hj hK h13 h15 hPU (by omega) (show i < 400 by omega) a1 a2 a3
  obtain ⟨I3, e1, e2⟩ := row_add b1 (by rw [l13, List.length_append, List.length_singleton]; omega) (nI tc)
  have b2' := b2.keep (e2.2 _ (by omega) (by omega)) (e2.2 _ (by omega) (by omega))
  obtain ⟨I4, g1, g2⟩ := row_add b2' (by rw [l15, List.length_append, List.length_singleton]; omega) 0
  have f4 : frP k I I4 := fun q w1 w2 w3 => by rw [g2.2 q (by omega) (by omega), e2.2 q (by omega) (by omega), b4 q w1 w2 w3]
  have ho4 : rowIs I4 4 (o ++ a) := b3.keep (by rw [g2.2 _ (by omega) (by omega), e2.2 _ (by omega) (by omega)]) (by rw [g2.2 _ (by omega) (by omega), e2.2 _ (by omega) (by omega)])
  obtain ⟨I5, k1, k2, k3, k4, k5⟩ := h1 I4 (P ++ [nI t]) (U ++ [nI (j + 1)]) (o ++ a) (n + c2) (i + 1) x1 (rk_frP hK f4) (e2.1.keep (g2.2 _ (by omega) (by omega)) (g2.2 _ (by omega) (by omega))) g2.1 (by rw [List.length_append, List.length_append, List.length_singleton, List.length_singleton]; omega) (by rw [List.length_append, List.length_singleton]; omega) ho4 (by rw [List.length_append]; omega) (by omega)
  have f5 : frP k I I5 := fun q w1 w2 w3 => by rw [k5 q w1 w2 w3, f4 q w1 w2 w3]
  obtain ⟨I6, m1, m2, m3, m4, m5⟩ := h2 I5 P U (o ++ a ++ s1) n (i + 1 + c1) x1 (rk_frP hK f5) k2 k3 hPU (by omega) k4 (by rw [List.length_append, List.length_append]; omega) (by omega)
  refine ⟨I6, ?_, m2, m3, by rw [← List.append_assoc, ← List.append_assoc]; exact m4, fun q w1 w2 w3 => by rw [m5 q w1 w2 w3, f5 q w1 w2 w3]⟩
  rw [show n + (1 + c1 + c2) = n + c2 + c1 + 1 by omega, b5, if_neg (nIm htc), e1, sb, g1, sb, k1, m1, show i + 1 + c1 + c2 = i + (1 + c1 + c2) by omega]
end
