/-! Ts of PARAMS and what is given; same, in a run (pure) -/
section
variable {sp : Int32} {k h md : Nat} {D : List Df} {L : lT} {B0 : iT} {J0 : jT} {F : fT} {I B : iT} {J : jT} {np nm dn sd : Nat} {R : lT} {z : Nat → Prop}
theorem pt24_0 (I : iT) (x1 x2 : Int32) : mX0_paramT_23 k I x1 x2 = some (-1) := rfl
theorem talk_ok (H : RUN sp k h md D L B0 J0 F I B J np nm dn sd R z) (h5 : F 1 5 = k) (h17 : I 1 7 = 1) (x1 x2 : Int32) : (mX11_talkOf I F x1 x2 = some (-1) ∧ mX12_typeOf B x1 x2 = some (-1)) ∨ ∃ t u p, mX11_talkOf I F x1 x2 = some (nI t) ∧ mX12_typeOf B x1 x2 = some (nI u) ∧ p ≤ 200 ∧ TR k L B J (fun v => 1400 * h ≤ v ∧ v < 1400 * h + md) p u t p := by
  obtain ⟨hK, hN, hPC⟩ := run_RK H
  have h33 : B 186 33 = 1 := H.2.1.2.2.2.1
  have h31 : B 186 31 = nI h := H.2.1.2.2.1
  have hSB := H.2.1.1
  have hJ : J 192 = J0 192 := H.2.1.2.1 192 (by omega) (by omega)
  have hBK := H.1
  have hT : tabL k L := hBK.2.2.1
  have hh : h < 2 := hBK.2.1
  have d1 := hBK.2.2.2.2.2.1.1
  have d2 := hBK.2.2.2.2.2.1.2.1
  have d3 := hBK.2.2.2.2.2.1.2.2.1
  obtain ⟨r35, r37, r39, r41, r43, r45⟩ := hBK.2.2.2.2.2.2.2.2.2.1
  have b205 : B 205 h = nI D.length := by rw [hSB 205 (by omega) (by omega)]; exact d2
  have c2 : (nI h).toNatClampNeg = h := nI_clamp (by omega)
  have i2 : inb (nI h) 2 := vp_in_nI hh (by omega)
  have e10 : ¬ (1 : Int32) = 0 := by decide
  have trB : ∀ {u t p : Nat}, TR k L B0 J0 (fun v => 1400 * h ≤ v ∧ v < 1400 * h + md) p u t p → TR k L B J (fun v => 1400 * h ≤ v ∧ v < 1400 * h + md) p u t p := fun w => tr_to hT TE.rfl (fun v _ => ⟨by rw [hSB 188 (by omega) (by omega)], by rw [hSB 189 (by omega) (by omega)], by rw [hSB 190 (by omega) (by omega)], by rw [hSB 191 (by omega) (by omega)], by rw [hJ]⟩) (fun v hv => hv) _ _ _ _ _ (Nat.le_refl _) w
  have hat : mX4_at (k + 35) I x1 = some (lat (L (k + 35)) x1) := rk_at hK (by unfold rkA; omega) x1
  have hc : mX11_talkOf I F x1 x2 = if x2 = -1 then some (lat (L (k + 35)) x1) else mX0_paramT k I x1 x2 := by
    unfold mX11_talkOf
    rw [h17, if_neg e10, h5, hat]
    by_cases q : x2 = -1
    · rw [if_pos q, if_pos q]; rfl
    · rw [if_neg q, if_neg q]
      cases mX0_paramT k I x1 x2 <;> rfl
  have hr : mX12_typeOf B x1 x2 = (mX12_isIn x1 0 (nI D.length - 1)).bind fun q1 => if q1 = 0 then some (-1) else if x2 = -1 then if inb (12 * nI h + x1) 24 then some (B 200 (12 * nI h + x1).toNatClampNeg) else none else if inb (12 * nI h + x1) 24 then (mX12_isIn x2 0 ((B 198 (12 * nI h + x1).toNatClampNeg) - 1)).bind fun q3 => if q3 = 0 then some ((-1)) else if inb ((4 * (12 * nI h + x1)) + x2) 96 then some (B 199 ((4 * (12 * nI h + x1)) + x2).toNatClampNeg) else none else none := by
    unfold mX12_typeOf mX12_isDef mX12_def0
    have g205 : B 205 (nI h).toNatClampNeg = nI D.length := by rw [congrArg (B 205) c2]; exact b205
    rw [h33, if_neg e10, h31, if_pos i2, g205]
    cases hq : mX12_isIn x1 0 (nI D.length - 1) with
    | none => rfl
    | some v =>
      rw [sb]
      by_cases q : v = 0
      · rw [if_pos q]
        show _ = if v = 0 then some (-1) else _
        rw [if_pos q]
        rfl
      · rw [if_neg q]
        show _ = if v = 0 then some (-1) else _
        rw [if_neg q]
        rfl
  -- the class's PARAMS out of their bounds
  have pneg : (x1 < 0 ∨ x2 < 0 ∨ (∃ n, n < 2 ^ 31 ∧ x1 = nI n ∧ 12 ≤ n) ∨ (∃ n, n < 2 ^ 31 ∧ x2 = nI n ∧ 4 ≤ n)) → mX0_paramT k I x1 x2 = some (-1) := by
    intro hx
    unfold mX0_paramT
    by_cases a1 : x1 < 0
    · rw [if_pos a1]; rfl
    rw [if_neg a1]
    by_cases a2 : (12 : Int32) ≤ x1
    · rw [if_pos a2]; rfl
    rw [if_neg a2]
    by_cases a3 : x2 < 0
    · rw [if_pos a3]; rfl
    rw [if_neg a3]
    by_cases a4 : (4 : Int32) ≤ x2
    · rw [if_pos a4]; rfl
    exfalso
    rcases hx with w | w | ⟨n, w1, w2, w3⟩ | ⟨n, w1, w2, w3⟩
    · exact a1 w
    · exact a3 w
    · exact a2 (by rw [w2]; exact nI_le (a := 12) w3 w1)
    · exact a4 (by rw [w2]; exact nI_le (a := 4) w3 w1)
  have ppos : ∀ f i, f < 12 → i < 4 → x1 = nI f → x2 = nI i → mX0_paramT k I x1 x2 = some (gI (L (k + 45)) (f * 4 + i)) := by
    intro f i hf hi e1 e2
    subst e1 e2
    have e4 : nI f * (4 : Int32) + nI i = nI (f * 4 + i) := by
      have : nI f * (4 : Int32) = nI (f * 4) := pk_mul f 4
      rw [this, nI_add]
    unfold mX0_paramT
    rw [if_neg (nI_not0 (by omega)), if_neg (show ¬ (12 : Int32) ≤ nI f from nI_ge (b := 12) hf (by omega)), if_neg (nI_not0 (by omega)), if_neg (show ¬ (4 : Int32) ≤ nI i from nI_ge (b := 4) hi (by omega))]
    unfold mX0_paramT_24
    rw [if_neg e10, e4, rk_g hK (by unfold rkA; omega) (by omega), sb]
  rw [hc, hr]
  rcases isn_ok (n := D.length) (by omega) x1 with ⟨hx, e⟩ | ⟨f, hf, rfl, ⟨c, e⟩ | ⟨c, e⟩⟩
  · left
    rw [e, sb, if_pos rfl, pneg (Or.inl hx), lat_neg hx, ite_self]
    exact ⟨rfl, rfl⟩
  · obtain ⟨ed, hed⟩ : ∃ q, D[f]? = some q := ⟨D[f]'c, List.getElem?_eq_getElem c⟩
    obtain ⟨f12, _, _, _, v35, ⟨u0, p0, v200, hp0, tr0⟩, a2, a3, a4, a5, a6, _⟩ := bk_at hBK hed
    have hq : 12 * h + f < 24 := by omega
    have e12 : (12 : Int32) * nI h + nI f = nI (12 * h + f) := i12 h f
    have g198 : B 198 (nI (12 * h + f)).toNatClampNeg = nI ed.2.1.length := by rw [congrArg (B 198) (cl24 hq), hSB 198 (by omega) (by omega)]; exact a3
    have g200 : B 200 (nI (12 * h + f)).toNatClampNeg = nI u0 := by rw [congrArg (B 200) (cl24 hq), hSB 200 (by omega) (by omega)]; exact v200
    rw [e, sb, if_neg e10, e12, if_pos (in24 hq), if_pos (in24 hq), g198, g200, lat_g hf, v35]
    by_cases q : x2 = -1
    · rw [if_pos q, if_pos q]
      right
      exact ⟨ed.2.2, u0, p0, rfl, rfl, hp0, trB tr0⟩
    · rw [if_neg q, if_neg q]
      rcases isn_ok (n := ed.2.1.length) (by omega) x2 with ⟨hx, w⟩ | ⟨i, hi, rfl, ⟨c', w⟩ | ⟨c', w⟩⟩
      · left
        rw [w, sb, if_pos rfl, pneg (Or.inr (Or.inl hx))]
        exact ⟨rfl, rfl⟩
      · obtain ⟨q', hq'⟩ : ∃ y, ed.2.1[i]? = some y := ⟨ed.2.1[i]'c', List.getElem?_eq_getElem c'⟩
        have hx : 4 * (12 * h + f) + i < 96 := by omega
        have g199 : B 199 (nI (4 * (12 * h + f) + i)).toNatClampNeg = B0 199 (4 * (12 * h + f) + i) := by rw [congrArg (B 199) (cl96 hx), hSB 199 (by omega) (by omega)]
        rw [w, sb, if_neg e10, i4p, if_pos (in96 hx), g199, ppos f i f12 (by omega) rfl rfl]
        rcases a5 i q' hq' with ⟨w1, w2, w3⟩ | ⟨w1, w2, u1, p1, w3, w4, w5⟩
        · left
          rw [w2, w3]
          exact ⟨rfl, rfl⟩
        · right
          rw [w2, w3]
          exact ⟨q'.2, u1, p1, rfl, rfl, w4, trB w5⟩
      · left
        rw [w, sb, if_pos rfl]
        refine ⟨?_, rfl⟩
        by_cases c4 : i < 4
        · rw [ppos f i f12 c4 rfl rfl, a6 i c' c4]
        · exact pneg (Or.inr (Or.inr (Or.inr ⟨i, hi, rfl, by omega⟩)))
  · left
    rw [e, sb, if_pos rfl, lat_g hf, gI_out (by omega)]
    refine ⟨?_, rfl⟩
    by_cases q : x2 = -1
    · rw [if_pos q]
    · rw [if_neg q]
      by_cases c12 : f < 12
      · rcases i32_cases x2 with hx2 | ⟨i, hi, rfl⟩
        · exact pneg (Or.inr (Or.inl hx2))
        · by_cases c4 : i < 4
          · rw [ppos f i c12 c4 rfl rfl, gI_out (by omega)]
          · exact pneg (Or.inr (Or.inr (Or.inr ⟨i, hi, rfl, by omega⟩)))
      · exact pneg (Or.inr (Or.inr (Or.inl ⟨f, hf, rfl, by omega⟩)))
theorem same_ok (H : RUN sp k h md D L B0 J0 F I B J np nm dn sd R z) (h5 : F 1 5 = k) (h17 : I 1 7 = 1) (x1 x2 x3 x4 : Int32) : ∃ r, mX11_same I F x1 x2 x3 x4 = some r ∧ mX12_same B J x1 x2 x3 x4 = some r := by
  have hBK := H.1
  have hT : tabL k L := hBK.2.2.1
  have hK1 : (L (k + 2)).length ≤ 1000 := hBK.2.2.2.2.2.2.2.2.1.2.2.1
  have hN5 : (L (k + 10)).length ≤ 500 := hBK.2.2.2.2.2.2.2.2.1.2.2.2.1
  unfold mX11_same mX12_same
  rcases talk_ok H h5 h17 x1 x2 with ⟨a1, a2⟩ | ⟨t1, u1, p1, a1, a2, a3, a4⟩
  · rw [a1, a2, sb, sb, if_pos rfl, if_pos rfl]
    exact ⟨0, rfl, rfl⟩
  · have hu1 := tr_u a4
    rw [a1, a2, sb, sb, if_neg (nIm (show t1 < 2 ^ 31 by omega)), if_neg (nIm (show u1 < 2 ^ 31 by omega))]
    rcases talk_ok H h5 h17 x3 x4 with ⟨b1, b2⟩ | ⟨t2, u2, p2, b1, b2, b3, b4⟩
    · rw [b1, b2, sb, sb, if_pos rfl, if_neg (nIm (show t1 < 2 ^ 31 by omega))]
      exact ⟨0, rfl, rfl⟩
    · have hu2 := tr_u b4
      have hal := al_ok hT hK1 hN5 p1 u1 t1 p1 p2 u2 t2 p2 SF a4 b4 (by show 2 * p1 + 1 ≤ 450; omega)
      rw [b1, b2, sb, sb, if_neg (nIm (show u2 < 2 ^ 31 by omega)), sb, sb, hal, sb]
      by_cases q : t1 = t2
      · rw [if_pos q, if_pos (show nI t1 = nI t2 by rw [q]), if_neg i10]
        exact ⟨1, rfl, rfl⟩
      · rw [if_neg q, if_pos rfl, if_neg (fun w => q ((nI_eq (by omega) (by omega)).mp w))]
        exact ⟨0, rfl, rfl⟩
end
