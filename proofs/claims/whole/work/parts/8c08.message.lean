/-! message in a run (pure) -/
/-- the reference's answer for MESSAGE x4 of so many letters -/
def msE (B : iT) (J : jT) (x3 x4 x5 : Int32) : Option Int32 := if x3 = 0 then if inb x4 700 then some (B 223 x4.toNatClampNeg) else none else if x3 = 1 then if inb x4 700 then if (B 223 x4.toNatClampNeg) = 2 then some x5 else if inb x4 700 then if (B 223 x4.toNatClampNeg) = 1 then if inb x4 700 then (mX12_real B (B 224 x4.toNatClampNeg)).bind fun q2 => some q2 else none else if inb x4 700 then some (B 224 x4.toNatClampNeg) else none else none else none else (mX12_isIn x3 100 (99 + x5)).bind fun q1 => if q1 = 0 then some ((-1)) else if inb x4 700 then some ((((J 226 x4.toNatClampNeg) >>> ((8 * ((x5 - 1) - (x3 - 100))).toInt64 &&& 63)) &&& 255).toInt32) else none
section
variable {B : iT} {J : jT}
theorem ms_cnt (x1 x2 x3 x4 : Int32) : ∀ (d : Nat) (l : List Nat) (n c : Nat), l.length = d → nam l → l.length ≤ 6 → mX12_message_91 (n + d + 1) B J x1 x2 x3 x4 (nI c) (lN (rN l)) = msE B J x3 x4 (nI (c + l.length)) := by
  intro d
  induction d with
  | zero =>
    intro l n c hl _ _
    have e : l = [] := List.eq_nil_of_length_eq_zero hl
    subst e
    have e0 : lg_cmp (lN (rN [])) 0 = 0 := (lg_eq0 _ _).mpr rfl
    rw [mX12_message_91, if_pos e0]
    rfl
  | succ d ih =>
    intro l n c hl hN h6
    have hne : l ≠ [] := fun w => by rw [w] at hl; exact absurd hl (by rw [List.length_nil]; omega)
    obtain ⟨l', x, rfl⟩ := snoc_of hne
    have h0 : ¬ lg_cmp (lN (rN (l' ++ [x]))) 0 = 0 := by
      rw [lg_eq0]
      intro w
      have := (lN_eq0 (by have := rN_lt hN h6; omega)).mp w
      rw [rN_snoc] at this
      omega
    have hN' : nam l' := fun y hy => hN y (List.mem_append.mpr (Or.inl hy))
    rw [List.length_append, List.length_singleton] at hl h6
    show mX12_message_91 (n + d + 1 + 1) B J x1 x2 x3 x4 (nI c) (lN (rN (l' ++ [x]))) = _
    rw [mX12_message_91, if_neg h0, nI_1, rN_shr hN (by rw [List.length_append, List.length_singleton]; omega), ih l' n (c + 1) (by omega) hN' (by omega), List.length_append, List.length_singleton, show c + 1 + l'.length = c + (l'.length + 1) by omega]
theorem ms_cnt1 (x1 x2 x3 x4 : Int32) {l : List Nat} (hN : nam l) (h6 : l.length ≤ 6) : mX12_message_91 LF B J x1 x2 x3 x4 0 (lN (rN l)) = msE B J x3 x4 (nI l.length) := by
  have := ms_cnt (B := B) (J := J) x1 x2 x3 x4 l.length l (LF - l.length - 1) 0 rfl hN h6
  rw [show LF - l.length - 1 + l.length + 1 = LF by unfold LF; omega, Nat.zero_add] at this
  exact this
/-- the reference goes along the row -/
theorem ms_go (x1 x3 : Int32) (i : Nat) (hi : i < 2 ^ 31) : ∀ (l : List Nat) (x : Int32) (j n : Nat), rq (B 225) x l → l.length < n → j ≤ i → l.length < 1000 → (∃ m, l[i - j]? = some m ∧ mX12_message_44 n B J x1 (nI i) x3 x (nI j) = mX12_message_71 B J x1 (nI i) x3 (nI m) (nI i)) ∨ (l[i - j]? = none ∧ mX12_message_44 n B J x1 (nI i) x3 x (nI j) = some (-1)) := by
  intro l
  induction l with
  | nil =>
    intro x j n h hn hj _
    obtain ⟨n, rfl⟩ : ∃ y, n = y + 1 := ⟨n - 1, by omega⟩
    have hx : x = -1 := h
    right
    refine ⟨List.getElem?_nil, ?_⟩
    rw [mX12_message_44, hx]
    unfold mX12_message_71
    rw [if_pos rfl, if_pos rfl, ite_self]
  | cons a l ih =>
    intro x j n h hn hj hl
    obtain ⟨n, rfl⟩ : ∃ y, n = y + 1 := ⟨n - 1, by omega⟩
    rw [List.length_cons] at hn hl
    obtain ⟨hx, ha, h'⟩ := h
    subst hx
    by_cases q : i ≤ j
    · have e : i = j := by omega
      subst e
      left
      refine ⟨a, by rw [Nat.sub_self]; rfl, ?_⟩
      rw [mX12_message_44, if_pos (nI_le (Nat.le_refl _) (by omega))]
    · have e0 : i - j = (i - (j + 1)) + 1 := by omega
      have g225 : B 225 (nI a).toNatClampNeg = B 225 a := congrArg (B 225) (cl700 ha)
      rw [e0, List.getElem?_cons_succ, mX12_message_44, if_neg (nI_ge (by omega) hi), if_neg (nIm (by omega)), if_pos (in700 ha), g225, nI_1]
      exact ih _ (j + 1) n h' (by omega) (by omega) (by omega)
end
section
variable {R : lT} {I : iT}
theorem fd_go (hN : RN I R) (x1 : Int32) (i : Nat) (hi : i < 2 ^ 31) : ∀ (l : List Nat) (x : Int32) (j n m : Nat), cq (gI (R 162)) x l → l.length < n → j ≤ i → (∀ y ∈ l, y < 2 ^ 31) → l[i - j]? = some m → mX1_find_44 n I x1 (nI i) x (nI j) = some (nI m) := by
  intro l
  induction l with
  | nil =>
    intro x j n m _ _ _ _ h
    rw [List.getElem?_nil] at h
    cases h
  | cons a l ih =>
    intro x j n m h hn hj hy hm
    obtain ⟨n, rfl⟩ : ∃ y, n = y + 1 := ⟨n - 1, by omega⟩
    rw [List.length_cons] at hn
    obtain ⟨hx, ha6, h'⟩ := h
    subst hx
    by_cases q : i ≤ j
    · have e : i = j := by omega
      subst e
      rw [Nat.sub_self] at hm
      have : a = m := by simpa using hm
      rw [mX1_find_44, if_pos (nI_le (Nat.le_refl _) (by omega)), this]
    · have e0 : i - j = (i - (j + 1)) + 1 := by omega
      rw [e0, List.getElem?_cons_succ] at hm
      rw [mX1_find_44, if_neg (nI_ge (by omega) hi), rn_g hN (by unfold rnA; omega) (hy a (List.mem_cons_self ..)), sb, nI_1]
      exact ih _ (j + 1) n m h' (by omega) (by omega) (fun y hy' => hy y (List.mem_cons_of_mem _ hy')) hm
end
section
variable {sp : Int32} {k h md : Nat} {D : List Df} {L : lT} {B0 : iT} {J0 : jT} {F : fT} {I B : iT} {J : jT} {np nm dn sd : Nat} {R : lT} {z : Nat → Prop}
theorem fo_out (hN : RN I R) (hl : (R 150).length = np) (hnp : np ≤ 80) {x1 : Int32} (hx : x1 < 0 ∨ ∃ x, x < 2 ^ 31 ∧ x1 = nI x ∧ np ≤ x) : mX1_follow I x1 = some x1 := by
  have e : lat (R 150) x1 = -1 := by
    rcases hx with q | ⟨x, q1, rfl, q2⟩
    · exact lat_neg q
    · rw [lat_g q1]; exact gI_out (by omega)
  unfold mX1_follow
  rw [show LF = 99999 + 1 from rfl, mX1_follow_4, if_neg (by decide), rn_at hN (by unfold rnA; omega), sb, e, if_pos rfl]
theorem msg_ok (H : RUN sp k h md D L B0 J0 F I B J np nm dn sd R z) (x1 x2 x3 : Int32) : ∃ r, mX11_message I x1 x2 x3 = some r ∧ mX12_message B J x1 x2 x3 = some r := by
  have h80 := run_80 H
  obtain ⟨s1, s2, s3, s4, s5, s6, s7, s8, Γ, ch, rl, dp, ow, Gt, Ht, q, mr, rk, t1, t2, t3, t4, t5, t6⟩ := H
  have h33 : B 186 33 = 1 := s2.2.2.2.1
  have h61 : B 186 61 = nI np := s7.2.1
  have hmd : mX1_made I = some (nI np) := by
    unfold mX1_made
    rw [rn_size s5 (by unfold rnA; omega), sb, t2.1]
  have e10 : ¬ (1 : Int32) = 0 := by decide
  have r0 : mX12_message B J x1 x2 x3 = (mX12_isIn x1 0 (nI np - 1)).bind fun q3 => if q3 = 0 then some ((-1)) else if 0 ≤ x2 then (mX12_real B x1).bind fun q4 => if inb (2 * q4) 160 then mX12_message_44 LF B J x1 x2 x3 (B 221 (2 * q4).toNatClampNeg) 0 else none else some ((-1)) := by
    unfold mX12_message
    rw [h33, if_neg e10, h61]
  rw [r0]
  rcases isn_ok (n := np) (by omega) x1 with ⟨hx, e⟩ | ⟨x, hx, rfl, ⟨c, e⟩ | ⟨c, e⟩⟩
  · refine ⟨-1, ?_, by rw [e, sb, if_pos rfl]⟩
    unfold mX11_message mX1_find
    rw [fo_out s5 t2.1 h80 (Or.inl hx), sb, if_pos hx, sb, if_pos rfl]
  · have hr1 := rl_lt t2 c
    have hr2 := rl_root t2 c
    obtain ⟨q1, q2, q3⟩ := t5 _ hr1 hr2 0 (by omega)
    obtain ⟨nd, ml⟩ := ty_q t1 hr1 hr2 (show 0 < 2 by omega)
    rw [Nat.add_zero] at q1 q2 q3 nd ml
    have hlen := nd_len nm _ nd (fun m hm => (ml m hm).1)
    have hnm : nm ≤ 600 := t4.2.1
    have e2 : (2 : Int32) * nI (rl x) = nI (2 * rl x) := pk_mul 2 _
    have g221 : B 221 (nI (2 * rl x)).toNatClampNeg = B 221 (2 * rl x) := congrArg (B 221) (cl160 (by omega))
    rw [e, sb, if_neg e10, rl_ok t2 c, sb, e2, if_pos (in160 (by omega)), g221]
    have hcnt : mX1_count I (nI (rl x)) 0 = some (nI (q (2 * rl x)).length) := by
      unfold mX1_count
      show (mX4_at 156 I (2 * nI (rl x) + nI 0)).bind _ = _
      rw [r2s, rn_g s5 (by unfold rnA; omega) (by omega), sb, Nat.add_zero, q1.1]
    rcases i32_cases x2 with hx2 | ⟨i, hi, rfl⟩
    · refine ⟨-1, ?_, by rw [if_neg (Int32.not_le.mpr hx2)]⟩
      unfold mX11_message mX1_find
      rw [fo_ok s5 t2 c, sb, if_neg (nI_not0 (by omega)), hmd, sb, if_neg (nI_ge hr1 (by omega)), if_pos hx2, sb, if_pos rfl]
    · have h0i : (0 : Int32) ≤ nI i := nI_le (a := 0) (Nat.zero_le i) hi
      rw [if_pos h0i]
      have cF : mX1_find I (nI (rl x)) (nI i) = if nI i < nI (q (2 * rl x)).length then mX1_find_44 LF I (nI (rl x)) (nI i) (gI (R 152) (2 * rl x)) 0 else some (-1) := by
        unfold mX1_find
        rw [if_neg (nI_not0 (by omega)), hmd, sb, if_neg (nI_ge hr1 (by omega)), if_neg (nI_not0 hi), hcnt, sb]
        have e3 : ((2 : Int32) * nI (rl x)) + 0 = nI (2 * rl x) := by
          rw [e2]; exact Int32.add_zero _
        rw [e3, rn_g s5 (by unfold rnA; omega) (by omega), sb]
      rcases ms_go (B := B) (J := J) (nI x) x3 i hi (q (2 * rl x)) _ 0 LF q2.1 (by unfold LF; omega) (Nat.zero_le _) (by omega) with ⟨m, g1, g2⟩ | ⟨g1, g2⟩
      · rw [Nat.sub_zero] at g1
        have him := (List.getElem?_eq_some_iff.mp g1).1
        have hmm := List.mem_of_getElem? g1
        have hm6 : m < nm := (ml m hmm).1
        have hfd := fd_go s5 (nI (rl x)) i hi (q (2 * rl x)) _ 0 LF m q1.2.1 (by unfold LF; omega) (Nat.zero_le _) (fun y hy => by have := (ml y hy).1; omega) (by rw [Nat.sub_zero]; exact g1)
        obtain ⟨k1, k2⟩ := q3 m hmm
        have hc : mX11_message I (nI x) (nI i) x3 = if x3 = 0 then some (gI (R 158) m) else if x3 = 1 then if gI (R 158) m = 2 then (mX11_lettersIn (gI (R 160) m)).bind fun q6 => some q6 else some (gI (R 160) m) else if gI (R 158) m = 2 then if 100 ≤ x3 then (mX11_letterOf (gI (R 160) m) (x3 - 100)).bind fun q5 => some q5 else some (-1) else some (-1) := by
          unfold mX11_message
          rw [fo_ok s5 t2 c, sb, cF, if_pos (nI_lt him (by omega))]
          show ((mX1_find_44 LF I (nI (rl x)) (nI i) (gI (R 152) (2 * rl x)) (nI 0)).bind _) = _
          rw [hfd, sb, if_neg (nIm (by omega)), rn_g s5 (by unfold rnA; omega) (by omega), sb, rn_g s5 (by unfold rnA; omega) (by omega), sb]
        have i7 := in700 (show m < 700 by omega)
        have c7 := cl700 (show m < 700 by omega)
        have g223 : B 223 (nI m).toNatClampNeg = gI (R 158) m := by rw [congrArg (B 223) c7]; exact k1
        have g224 : B 224 (nI m).toNatClampNeg = B 224 m := congrArg (B 224) c7
        have g226 : J 226 (nI m).toNatClampNeg = J 226 m := congrArg (J 226) c7
        have hr : mX12_message_44 LF B J (nI x) (nI i) x3 (B 221 (2 * rl x)) 0 = mX12_message_91 LF B J (nI x) (nI i) x3 (nI m) 0 (J 226 m) := by
          refine g2.trans ?_
          unfold mX12_message_71
          rw [if_neg (nIm (by omega)), if_pos i7, g226]
        rw [hc, hr]
        have hE : ∀ y : Int32, ¬ y = 0 → ¬ y = 1 → msE B J y (nI m) (nI 0) = some (-1) := by
          intro y y0 y1
          unfold msE
          rw [if_neg y0, if_neg y1, isIn_eq]
          have e99 : (99 : Int32) + nI 0 = 99 := by decide
          rw [e99]
          have hor : y < 100 ∨ (99 : Int32) < y := by
            by_cases w : y < 100
            · exact Or.inl w
            · right
              have w1 := Int32.not_lt.mp w
              rw [Int32.le_iff_toInt_le] at w1
              rw [Int32.lt_iff_toInt_lt]
              have a1 : (100 : Int32).toInt = 100 := by decide
              have a2 : (99 : Int32).toInt = 99 := by decide
              omega
          rw [if_pos hor, sb, if_pos rfl]
        have j0 : J 226 m = 0 → mX12_message_91 LF B J (nI x) (nI i) x3 (nI m) 0 (J 226 m) = msE B J x3 (nI m) (nI 0) := fun hj => by
          rw [hj]
          exact ms_cnt1 (l := []) (nI x) (nI i) x3 (nI m) (fun y hy => by cases hy) (by rw [List.length_nil]; omega)
        have num : J 226 m = 0 → ¬ gI (R 158) m = 1 → ¬ gI (R 158) m = 2 → gI (R 160) m = B 224 m → ∃ r, (if x3 = 0 then some (gI (R 158) m) else if x3 = 1 then if gI (R 158) m = 2 then (mX11_lettersIn (gI (R 160) m)).bind fun q6 => some q6 else some (gI (R 160) m) else if gI (R 158) m = 2 then if 100 ≤ x3 then (mX11_letterOf (gI (R 160) m) (x3 - 100)).bind fun q5 => some q5 else some (-1) else some (-1)) = some r ∧ mX12_message_91 LF B J (nI x) (nI i) x3 (nI m) 0 (J 226 m) = some r := by
          intro hj n1 n2 hv
          rw [j0 hj, if_neg n2, if_neg n2]
          by_cases z0 : x3 = 0
          · refine ⟨gI (R 158) m, if_pos z0, ?_⟩
            unfold msE
            rw [if_pos z0, if_pos i7, g223]
          · by_cases z1 : x3 = 1
            · refine ⟨gI (R 160) m, by rw [if_neg z0, if_pos z1], ?_⟩
              unfold msE
              rw [if_neg z0, if_pos z1, if_pos i7, g223, if_neg n2, if_pos i7, if_neg n1, if_pos i7, g224, hv]
            · exact ⟨-1, by rw [if_neg z0, if_neg z1], hE x3 z0 z1⟩
        rcases k2 with ⟨v1, v2, v3⟩ | ⟨v1, v3, v, y, w1, w2, w3, w4, w5⟩ | ⟨v1, v2, w, w1, w2, w3⟩ | ⟨v1, v2, v3, v4⟩
        · exact num v3 (by rw [v1]; decide) (by rw [v1]; decide) v2
        · rw [j0 v3, v1]
          by_cases z0 : x3 = 0
          · refine ⟨1, if_pos z0, ?_⟩
            unfold msE
            rw [if_pos z0, if_pos i7, g223, v1]
          · by_cases z1 : x3 = 1
            · refine ⟨nI v, by rw [if_neg z0, if_pos z1, if_neg (by decide), w1], ?_⟩
              unfold msE
              rw [if_neg z0, if_pos z1, if_pos i7, g223, v1, if_neg (by decide), if_pos i7, if_pos rfl, if_pos i7, g224, w2, rl_ok t2 w4, sb, w5]
            · exact ⟨-1, by rw [if_neg z0, if_neg z1, if_neg (by decide)], hE x3 z0 z1⟩
        · have hl6 := w1.2.2
          rw [v1, w2, w3, lin_ok w1, sb, ms_cnt1 (nI x) (nI i) x3 (nI m) w1.1 hl6]
          by_cases z0 : x3 = 0
          · refine ⟨2, if_pos z0, ?_⟩
            unfold msE
            rw [if_pos z0, if_pos i7, g223, v1]
          · by_cases z1 : x3 = 1
            · refine ⟨nI w.length, by rw [if_neg z0, if_pos z1, if_pos rfl], ?_⟩
              unfold msE
              rw [if_neg z0, if_pos z1, if_pos i7, g223, v1, if_pos rfl]
            · have e99 : (99 : Int32) + nI w.length = nI (99 + w.length) := nI_add 99 _
              unfold msE
              rw [if_neg z0, if_neg z1, if_neg z0, if_neg z1, if_pos rfl, isIn_eq, e99, sb]
              rcases i32_cases x3 with h3 | ⟨n3, h3, rfl⟩
              · have h3' : x3 < 100 := by
                  rw [Int32.lt_iff_toInt_lt] at h3 ⊢
                  have a1 : (100 : Int32).toInt = 100 := by decide
                  have a2 : (0 : Int32).toInt = 0 := by decide
                  omega
                refine ⟨-1, by rw [if_neg (Int32.not_le.mpr h3')], by rw [if_pos (Or.inl h3'), if_pos rfl]⟩
              · by_cases c1 : n3 < 100
                · have h3' : nI n3 < 100 := nI_lt (b := 100) c1 (by omega)
                  exact ⟨-1, by rw [if_neg (Int32.not_le.mpr h3')], by rw [if_pos (Or.inl h3'), if_pos rfl]⟩
                · obtain ⟨kk, rfl⟩ : ∃ kk, n3 = 100 + kk := ⟨n3 - 100, by omega⟩
                  have a2 : nI (100 + kk) - (100 : Int32) = nI kk := by
                    have := pk_sub (a := 100 + kk) (b := 100) (by omega)
                    rw [show 100 + kk - 100 = kk by omega] at this
                    exact this
                  have h3' : (100 : Int32) ≤ nI (100 + kk) := nI_le (a := 100) (by omega) h3
                  rw [if_pos h3', a2]
                  by_cases c2 : kk < w.length
                  · have h4 : ¬ (nI (100 + kk) < 100 ∨ nI (99 + w.length) < nI (100 + kk)) := fun q => q.elim (fun q => absurd q (Int32.not_lt.mpr h3')) (fun q => nI_nlt (by omega) (by omega) q)
                    refine ⟨nI (96 + w.getD kk 0), by rw [let_ok w1 (by omega), if_pos c2, sb], ?_⟩
                    rw [if_neg h4, if_neg e10, if_pos i7, g226, w3]
                    have := rlet w1 c2
                    rw [a2] at this
                    rw [this]
                  · have h4 : nI (99 + w.length) < nI (100 + kk) := nI_lt (by omega) h3
                    refine ⟨-1, ?_, by rw [if_pos (Or.inr h4), if_pos rfl]⟩
                    by_cases c3 : kk < 6
                    · rw [let_ok w1 c3, if_neg c2, sb]
                    · rw [let_out _ (by omega) (by omega), sb]
        · exact num v4 (by rw [v1]; decide) (by rw [v1]; decide) (by rw [v2, v3])
      · rw [Nat.sub_zero] at g1
        refine ⟨-1, ?_, g2⟩
        have hl : (q (2 * rl x)).length ≤ i := List.getElem?_eq_none_iff.mp g1
        unfold mX11_message
        rw [fo_ok s5 t2 c, sb, cF, if_neg (nI_nlt hl (by omega)), sb, if_pos rfl]
  · refine ⟨-1, ?_, by rw [e, sb, if_pos rfl]⟩
    unfold mX11_message mX1_find
    rw [fo_out s5 t2.1 h80 (Or.inr ⟨x, hx, rfl, c⟩), sb, if_neg (nI_not0 hx), hmd, sb, if_pos (nI_le c hx), sb, if_pos rfl]
end
