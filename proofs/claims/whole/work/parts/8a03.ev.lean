/-! Es ARE WORKED OUT, in both (pure): one node -/
section
variable {k p n : Nat} {L : lT} {N : Nat → Prop} {s : Nat → Int32} {I B B0 : iT} {V : List Int32} {R : sc_12worthT} {x1 x2 x3 x4 x5 : Int32} {e c m : Nat}
theorem vo_eq (h : CA k p L N s I V) {i : Nat} (hi : i < 2 ^ 31) (x3 : Int32) : mX8_valueOf (k + 18) 176 I (nI i) x3 = if gI (L (k + 19)) i = 42 then some (lat V (gI (L (k + 21)) i) * lat V (gI (L (k + 23)) i)) else if gI (L (k + 19)) i = 43 then some (lat V (gI (L (k + 21)) i) + lat V (gI (L (k + 23)) i)) else if gI (L (k + 19)) i = 45 then some (lat V (gI (L (k + 21)) i) - lat V (gI (L (k + 23)) i)) else if gI (L (k + 19)) i = 60 then if lat V (gI (L (k + 23)) i) ≤ lat V (gI (L (k + 21)) i) then some 0 else some 1 else if gI (L (k + 19)) i = 256 then (mX4_at 176 I (x3 + gI (L (k + 21)) i)).bind fun q6 => some q6 else if gI (L (k + 19)) i = 257 then some (gI (L (k + 21)) i) else if gI (L (k + 19)) i = 261 then some (-(lat V (gI (L (k + 21)) i))) else if lat V (gI (L (k + 21)) i) = lat V (gI (L (k + 23)) i) then some 1 else some 0 := by
  obtain ⟨c1, ⟨c2, c3⟩, _⟩ := h
  have a19 : mX4_at (k + 18 + 1) I (nI i) = some (gI (L (k + 19)) i) := row_g (c1 (k + 19) (by unfold rkA; omega)) hi
  have a21 : mX4_at (k + 18 + 3) I (nI i) = some (gI (L (k + 21)) i) := row_g (c1 (k + 21) (by unfold rkA; omega)) hi
  have a23 : mX4_at (k + 18 + 5) I (nI i) = some (gI (L (k + 23)) i) := row_g (c1 (k + 23) (by unfold rkA; omega)) hi
  have a27 : ∀ x, mX4_at (k + 18 + 9) I x = some (lat V x) := fun x => row_at c2 x
  unfold mX8_valueOf
  rw [a21, sb, a27, sb, a23, sb, a27, sb, a19, sb]
/-! the reference -/
theorem w8_leaf (he : e < 2800) (h20 : B 188 e = 20) : mX12_worth_8 R (m + 1) B x1 x2 x3 (nI e) = mX12_worth_117 R LF B x1 x2 x3 (nI e) (B 189 e) := by
  have i28 := in28 he
  have c28 := cl28 he
  have g1 : B 188 (nI e).toNatClampNeg = 20 := (congrArg (B 188) c28).trans h20
  have g2 : B 189 (nI e).toNatClampNeg = B 189 e := congrArg (B 189) c28
  rw [mX12_worth_8, if_pos i28, g1, if_pos (by decide), if_pos i28, if_pos rfl, if_pos i28, g2]
  rfl
theorem w8_slot (he : e < 2800) (h21 : B 188 e = 21) : mX12_worth_8 R (m + 1) B x1 x2 x3 (nI e) = (mX12_value B x1 (B 189 e)).bind fun q4 => mX12_worth_117 R LF B x1 x2 x3 (nI e) q4 := by
  have i28 := in28 he
  have c28 := cl28 he
  have g1 : B 188 (nI e).toNatClampNeg = 21 := (congrArg (B 188) c28).trans h21
  have g2 : B 189 (nI e).toNatClampNeg = B 189 e := congrArg (B 189) c28
  rw [mX12_worth_8, if_pos i28, g1, if_pos (by decide), if_pos i28, if_neg (by decide), if_pos i28, if_pos rfl, if_pos i28, g2]
  rfl
theorem w8_neg (he : e < 2800) (h22 : B 188 e = 22) : mX12_worth_8 R (m + 1) B x1 x2 x3 (nI e) = (R B x1 (B 189 e)).bind fun q3 => mX12_worth_117 R LF q3.2 x1 x2 x3 (nI e) (-q3.1) := by
  have i28 := in28 he
  have c28 := cl28 he
  have g1 : B 188 (nI e).toNatClampNeg = 22 := (congrArg (B 188) c28).trans h22
  have g2 : B 189 (nI e).toNatClampNeg = B 189 e := congrArg (B 189) c28
  rw [mX12_worth_8, if_pos i28, g1, if_pos (by decide), if_pos i28, if_neg (by decide), if_pos i28, if_neg (by decide), if_pos i28, g2]
  rfl
def puB (B : iT) (c e : Nat) : iT := a_u2 (a_u2 B 229 c (nI e)) 186 76 (nI (c + 1))
theorem w8_bin (he : e < 2800) {w : Nat} (hw : B 188 e = nI w) (hw2 : 23 ≤ w ∧ w ≤ 27) (hc : B 186 76 = nI c) (hc2 : c < 1400) : mX12_worth_8 R (m + 1) B x1 x2 x3 (nI e) = mX12_worth_8 R m (puB B c e) x1 x2 x3 (B 189 e) := by
  have i28 := in28 he
  have c28 := cl28 he
  have g1 : B 188 (nI e).toNatClampNeg = nI w := (congrArg (B 188) c28).trans hw
  have ic : inb (nI c) 1400 := vp_in_nI hc2 (by omega)
  have cc : (nI c).toNatClampNeg = c := nI_clamp (by omega)
  have e1 : (a_u2 (a_u2 B 229 (nI c).toNatClampNeg (nI e)) 186 76 ((a_u2 B 229 (nI c).toNatClampNeg (nI e)) 186 76 + 1)) = puB B c e := by
    unfold puB
    rw [a_u2_n _ _ (by omega), hc, cc, nI_1]
  have e2 : (puB B c e) 189 (nI e).toNatClampNeg = B 189 e := by
    rw [congrArg (puB B c e 189) c28]
    unfold puB
    rw [a_u2_n _ _ (by omega), a_u2_n _ _ (by omega)]
  rw [mX12_worth_8, if_pos i28, g1, if_neg (show ¬ nI w < 23 from nI_nlt (b := 23) hw2.1 (by omega)), hc, if_pos ic, if_pos i28, e1, e2]
theorem w117_end {f0 : Nat} (hc : B 186 76 = nI c) (hf : c ≤ f0) (hf2 : f0 < 2 ^ 31) : mX12_worth_117 R (m + 1) B x1 x2 (nI f0) x4 x5 = some (x5, B) := by
  rw [mX12_worth_117, hc, if_pos (nI_le hf hf2)]
theorem w117_pop {f0 : Nat} (hc : B 186 76 = nI (c + 1)) (hc2 : c < 1400) (hf : f0 ≤ c) (he : e < 2800) (h229 : B 229 c = nI e) : mX12_worth_117 R (m + 1) B x1 x2 (nI f0) x4 x5 = (R B x1 (B 190 e)).bind fun q1 => (mX12_both ((a_u2 q1.2 186 76 ((q1.2 186 76) - 1)) 188 e) x5 q1.1).bind fun q2 => mX12_worth_117 R m (a_u2 q1.2 186 76 ((q1.2 186 76) - 1)) x1 x2 (nI f0) x4 q2 := by
  have i28 := in28 he
  have c28 := cl28 he
  have ic : inb (nI c) 1400 := vp_in_nI hc2 (by omega)
  have cc : (nI c).toNatClampNeg = c := nI_clamp (by omega)
  have g229 : B 229 (nI c).toNatClampNeg = nI e := (congrArg (B 229) cc).trans h229
  have g190 : B 190 (nI e).toNatClampNeg = B 190 e := congrArg (B 190) c28
  rw [mX12_worth_117, hc, if_neg (nI_ge (by omega) (by omega)), nI_pred, if_pos ic, g229, if_pos i28, g190]
  simp only [if_pos i28, c28]
end
