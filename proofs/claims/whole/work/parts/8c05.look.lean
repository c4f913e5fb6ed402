/-! look in a run (pure) -/
/-- how many are not OVER from j on -/
def alF (l : List Int32) (j : Nat) : Nat → Nat
  | 0 => 0
  | d + 1 => (if gI l j = 0 then 1 else 0) + alF l (j + 1) d
def lookE (B : iT) (x1 x2 : Int32) : Option Int32 := if x1 = 0 then if inb (B 186 31) 2 then some (B 204 (B 186 31).toNatClampNeg) else none else if x1 = 1 then if inb (B 186 31) 2 then some (B 205 (B 186 31).toNatClampNeg) else none else if x1 = 2 then some (B 186 60) else if x1 = 3 then some x2 else if x1 = 4 then some (B 186 61) else if x1 = 5 then some (B 186 62) else if x1 = 6 then some (B 186 63) else if (B 186 65) = 0 then some 0 else some 1
section
variable {sp : Int32} {k h md : Nat} {D : List Df} {L : lT} {B0 : iT} {J0 : jT} {F : fT} {I B : iT} {J : jT} {np nm dn sd : Nat} {R : lT} {z : Nat → Prop}
theorem al_c (H : RUN sp k h md D L B0 J0 F I B J np nm dn sd R z) : ∀ (d j n c : Nat), j + d = np → mX6_alive_4 (n + d + 1) I (nI c) (nI j) = some (nI (c + alF (R 168) j d)) := by
  have h80 := run_80 H
  obtain ⟨hK, hN, hPC⟩ := run_RK H
  have hmd := made_ok H
  intro d
  induction d with
  | zero =>
    intro j n c hj
    rw [mX6_alive_4, hmd, sb, if_pos (nI_le (by omega) (by omega))]
    rfl
  | succ d ih =>
    intro j n c hj
    show mX6_alive_4 (n + d + 1 + 1) I (nI c) (nI j) = _
    rw [mX6_alive_4, hmd, sb, if_neg (nI_ge (by omega) (by omega)), rn_g hN (by unfold rnA; omega) (by omega), sb, nI_1]
    rcases (hPC.2 j (by omega)).1 with o | o
    · have e : (1 : Int32) - gI (R 168) j = nI 1 := by rw [o]; rfl
      rw [e, nI_add, ih (j + 1) n (c + 1) (by omega)]
      show _ = some (nI (c + ((if gI (R 168) j = 0 then 1 else 0) + alF (R 168) (j + 1) d)))
      rw [if_pos o, Nat.add_assoc]
    · have e : (1 : Int32) - gI (R 168) j = nI 0 := by rw [o]; rfl
      rw [e, nI_add, ih (j + 1) n (c + 0) (by omega)]
      show _ = some (nI (c + ((if gI (R 168) j = 0 then 1 else 0) + alF (R 168) (j + 1) d)))
      rw [if_neg (by rw [o]; decide), Nat.add_assoc]
theorem al_r (H : RUN sp k h md D L B0 J0 F I B J np nm dn sd R z) (x1 : Int32) : ∀ (d j n c : Nat), j + d = np → mX12_look_25 (n + d + 1) B x1 (nI c) (nI j) = lookE B x1 (nI (c + alF (R 168) j d)) := by
  have h80 := run_80 H
  obtain ⟨hK, hN, hPC⟩ := run_RK H
  have h60 : B 186 60 = nI np := H.2.2.2.2.2.2.1.1
  intro d
  induction d with
  | zero =>
    intro j n c hj
    rw [mX12_look_25, if_pos (by rw [h60]; exact nI_le (by omega) (by omega))]
    rfl
  | succ d ih =>
    intro j n c hj
    show mX12_look_25 (n + d + 1 + 1) B x1 (nI c) (nI j) = _
    have g219 : B 219 (nI j).toNatClampNeg = gI (R 168) j := by rw [congrArg (B 219) (cl80 (show j < 80 by omega))]; exact (hPC.2 j (by omega)).2.1
    have hng : ¬ B 186 60 ≤ nI j := by rw [h60]; exact nI_ge (by omega) (by omega)
    rw [mX12_look_25, if_neg hng, if_pos (in80 (by omega)), g219]
    unfold mX12_look_48
    rw [nI_1, nI_1]
    rcases (hPC.2 j (by omega)).1 with o | o
    · rw [if_pos o, ih (j + 1) n (c + 1) (by omega)]
      show _ = lookE B x1 (nI (c + ((if gI (R 168) j = 0 then 1 else 0) + alF (R 168) (j + 1) d)))
      rw [if_pos o, Nat.add_assoc]
    · have e : nI c + (0 : Int32) = nI c := Int32.add_zero _
      rw [if_neg (by rw [o]; decide), e, ih (j + 1) n c (by omega)]
      show _ = lookE B x1 (nI (c + ((if gI (R 168) j = 0 then 1 else 0) + alF (R 168) (j + 1) d)))
      rw [if_neg (by rw [o]; decide), Nat.zero_add]
theorem ex_iff2 {α : Type} {c : Prop} [Decidable c] {a b : Option α} (ha : ∃ r, a = some r) (hb : ∃ r, b = some r) : ∃ r, (if c then a else b) = some r := by
  by_cases q : c
  · rw [if_pos q]; exact ha
  · rw [if_neg q]; exact hb
theorem ex_both {α : Type} {a b c : Option α} (h1 : a = c) (h2 : b = c) (e : ∃ r, c = some r) : ∃ r, a = some r ∧ b = some r := by
  obtain ⟨r, hr⟩ := e
  exact ⟨r, h1.trans hr, h2.trans hr⟩
theorem look_ok (H : RUN sp k h md D L B0 J0 F I B J np nm dn sd R z) (h5 : F 1 5 = k) (h17 : I 1 7 = 1) (x1 : Int32) : ∃ r, mX11_look I F x1 = some r ∧ mX12_look B x1 = some r := by
  have h80 := run_80 H
  obtain ⟨hK, hN, hPC⟩ := run_RK H
  have h33 : B 186 33 = 1 := H.2.1.2.2.2.1
  have h31 : B 186 31 = nI h := H.2.1.2.2.1
  have hBK := H.1
  have hh : h < 2 := hBK.2.1
  obtain ⟨wn, w1, w2, w3⟩ := hBK.2.2.2.2.2.2.2.2.2.2.1
  have d1 := hBK.2.2.2.2.2.1.1
  have d2 := hBK.2.2.2.2.2.1.2.1
  obtain ⟨n1, n2, n3, n4, n5, n6, n7, n8, n9, n10, n11, n12⟩ := H.2.2.2.2.2.2.1
  have t150 : mX1_made I = some (nI np) := by
    obtain ⟨s1, s2, s3, s4, s5, s6, s7, s8, Γ, ch, rl, dp, ow, Gt, Ht, q, mr, rk, t1, t2, t3, t4, t5, t6⟩ := H
    unfold mX1_made
    rw [rn_size s5 (by unfold rnA; omega), sb, t2.1]
  have b204 : B 204 h = nI wn := by rw [H.2.1.1 204 (by omega) (by omega)]; exact w3
  have b205 : B 205 h = nI D.length := by rw [H.2.1.1 205 (by omega) (by omega)]; exact d2
  have c2 : (nI h).toNatClampNeg = h := nI_clamp (by omega)
  have i2 : inb (nI h) 2 := vp_in_nI hh (by omega)
  have hA : mX6_alive I = some (nI (alF (R 168) 0 np)) := by
    have := al_c H np 0 (LF - np - 1) 0 (by omega)
    rw [show LF - np - 1 + np + 1 = LF by unfold LF; omega, Nat.zero_add] at this
    exact this
  have hB := al_r H x1 np 0 (LF - np - 1) 0 (by omega)
  rw [show LF - np - 1 + np + 1 = LF by unfold LF; omega, Nat.zero_add] at hB
  have hs33 : (L (k + 33)).length = D.length := by rw [d1, List.length_map]
  have e33 : ¬ (1 : Int32) = 0 := by decide
  unfold mX11_look mX12_look
  rw [isIn_eq, h33, if_neg e33, h17, if_neg e33, h5]
  rcases i32_cases x1 with hx | ⟨n, hn, rfl⟩
  · exact ⟨-1, by rw [if_pos hx], by rw [if_pos (Or.inl hx)]; rfl⟩
  by_cases c : n ≤ 7
  · have c1 : nI n ≤ 7 := nI_le (b := 7) c (by omega)
    have c3 : ¬ (nI n < 0 ∨ (7 : Int32) < nI n) := fun y => y.elim (nI_not0 hn) (Int32.not_lt.mpr c1)
    rw [if_neg (nI_not0 hn), if_pos c1, if_neg c3, sb, if_neg e33, rk_size hK (a := k + 29) (by unfold rkA; omega), rk_size hK (a := k + 33) (by unfold rkA; omega), made_ok H, hA, t150, n3, n8, n11, n12]
    simp only [sb]
    rw [w1, hs33]
    show ∃ r, _ = some r ∧ mX12_look_25 LF B (nI n) (nI 0) (nI 0) = some r
    rw [hB]
    unfold lookE
    have g204 : B 204 (nI h).toNatClampNeg = nI wn := by rw [congrArg (B 204) c2]; exact b204
    have g205 : B 205 (nI h).toNatClampNeg = nI D.length := by rw [congrArg (B 205) c2]; exact b205
    rw [h31, g204, g205, if_pos i2, if_pos i2, n1, n2, n4, n9, n12]
    refine ex_both rfl rfl ?_
    repeat' first
      | apply ex_iff2
      | exact ⟨_, rfl⟩
  · have c1 : (7 : Int32) < nI n := nI_lt (a := 7) (by omega) hn
    exact ⟨-1, by rw [if_neg (nI_not0 hn), if_neg (Int32.not_le.mpr c1)], by rw [if_pos (Or.inr c1)]; rfl⟩
end
