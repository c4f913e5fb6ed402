/-! def in a run (pure) -/
def defE (B : iT) (J : jT) (x2 x3 x4 : Int32) : Option Int32 := if x2 = 0 then if inb x3 24 then some (B 198 x3.toNatClampNeg) else none else if x2 = 1 then some x4 else if x2 = 2 then if inb x3 24 then some (B 202 x3.toNatClampNeg) else none else if inb x3 24 then (mX12_least SF B J (B 201 x3.toNatClampNeg)).bind fun q1 => some q1 else none
theorem in24 {x : Nat} (h : x < 24) : inb (nI x) 24 := vp_in_nI h (by omega)
theorem cl24 {x : Nat} (h : x < 24) : (nI x).toNatClampNeg = x := nI_clamp (by omega)
theorem in96 {x : Nat} (h : x < 96) : inb (nI x) 96 := vp_in_nI h (by omega)
theorem cl96 {x : Nat} (h : x < 96) : (nI x).toNatClampNeg = x := nI_clamp (by omega)
theorem i4p (a b : Nat) : (4 : Int32) * nI a + nI b = nI (4 * a + b) := by
  have : (4 : Int32) * nI a = nI (4 * a) := pk_mul 4 a
  rw [this, nI_add]
theorem cch_drop (ps : Gm) {j : Nat} {q : Nat × Nat} (h : ps[j]? = some q) : cch (ps.drop j) = (if q.1 = 2 then 1 else 0) + cch (ps.drop (j + 1)) := by
  have hj := (List.getElem?_eq_some_iff.mp h).1
  have e : ps.drop j = q :: ps.drop (j + 1) := by
    rw [List.drop_eq_getElem_cons hj]
    have := (List.getElem?_eq_some_iff.mp h).2
    rw [this]
  rw [e]
  unfold cch
  by_cases c : q.1 = 2
  · rw [List.filter_cons_of_pos (by simpa using c), List.length_cons, if_pos c, Nat.add_comm]
  · rw [List.filter_cons_of_neg (by simpa using c), if_neg c, Nat.zero_add]
section
variable {sp : Int32} {k h md : Nat} {D : List Df} {L : lT} {B0 : iT} {J0 : jT} {F : fT} {I B : iT} {J : jT} {np nm dn sd : Nat} {R : lT} {z : Nat → Prop}
/-- what a book says of one of its DEFS, in both -/
theorem bk_at (H : BK k h md D L B0 J0) {f : Nat} {e : Df} (hf : D[f]? = some e) : f < 12 ∧ h < 2 ∧ B0 205 h = nI D.length ∧ D.length ≤ 12 ∧ gI (L (k + 35)) f = nI e.2.2 ∧ (∃ u p, B0 200 (12 * h + f) = nI u ∧ p ≤ 200 ∧ TR k L B0 J0 (fun v => 1400 * h ≤ v ∧ v < 1400 * h + md) p u e.2.2 p) ∧ gI (L (k + 43)) f = nI e.2.1.length ∧ B0 198 (12 * h + f) = nI e.2.1.length ∧ e.2.1.length ≤ 4 ∧ (∀ (i : Nat) (q : Nat × Nat), e.2.1[i]? = some q → ((q.1 = 1 ∧ gI (L (k + 45)) (f * 4 + i) = -1 ∧ B0 199 (4 * (12 * h + f) + i) = -1) ∨ (q.1 = 2 ∧ gI (L (k + 45)) (f * 4 + i) = nI q.2 ∧ ∃ u p, B0 199 (4 * (12 * h + f) + i) = nI u ∧ p ≤ 200 ∧ TR k L B0 J0 (fun v => 1400 * h ≤ v ∧ v < 1400 * h + md) p u q.2 p))) ∧ (∀ i, e.2.1.length ≤ i → i < 4 → gI (L (k + 45)) (f * 4 + i) = -1) ∧ ∃ u κ l m w, B0 201 (12 * h + f) = nI u ∧ gI (L (k + 41)) f = nI l ∧ gI (L (k + 39)) f = nI w ∧ B0 202 (12 * h + f) = nI w ∧ m ≤ 250 ∧ PR k e.2.1.length (D.take f) L B0 J0 (fun v => 1400 * h ≤ v ∧ v < 1400 * h + md) (fun κ => κ < (L (k + 47)).length) (fun c => c < (L (k + 55)).length) m u κ l ((2, e.2.2) :: e.2.1) := by
  have hh := H.2.1
  obtain ⟨_, _, _, _, _, ⟨_, d2, d3, d4⟩, ⟨_, dx⟩, _⟩ := H
  obtain ⟨_, _, a0, a1, a2, a3, a4, a5⟩ := d4 f e hf
  obtain ⟨u, κ, l, m, w, b1, b2, b3, b4, b5, b6, b7, b8, b9⟩ := dx f e hf
  have := (List.getElem?_eq_some_iff.mp hf).1
  exact ⟨by omega, hh, d2, d3, a0, a1, a2, a3, a4, a5, b9, u, κ, l, m, w, b1, b3, b4, b5, b6, b8⟩
theorem df_loop (h198 : B 198 = B0 198) (h199 : B 199 = B0 199) (hBK : BK k h md D L B0 J0) {f : Nat} {e : Df} (hf : D[f]? = some e) (x1 x2 : Int32) : ∀ (d j n c : Nat), j + d = e.2.1.length → mX12_def_31 (n + d + 1) B J x1 x2 (nI (12 * h + f)) (nI c) (nI j) = defE B J x2 (nI (12 * h + f)) (nI (c + cch (e.2.1.drop j))) := by
  obtain ⟨f12, hh, _, _, _, _, _, a3, a4, a5, _⟩ := bk_at hBK hf
  have hq : 12 * h + f < 24 := by omega
  have g198 : B 198 (nI (12 * h + f)).toNatClampNeg = nI e.2.1.length := by rw [congrArg (B 198) (cl24 hq), h198]; exact a3
  intro d
  induction d with
  | zero =>
    intro j n c hj
    have e0 : cch (e.2.1.drop j) = 0 := by rw [List.drop_eq_nil_of_le (by omega)]; rfl
    rw [mX12_def_31, if_pos (in24 hq), g198, if_pos (nI_le (by omega) (by omega)), e0, ← g198]
    rfl
  | succ d ih =>
    intro j n c hj
    obtain ⟨q, hq2⟩ : ∃ q, e.2.1[j]? = some q := ⟨e.2.1[j]'(by omega), List.getElem?_eq_getElem (by omega)⟩
    have hc := cch_drop e.2.1 hq2
    have hx : 4 * (12 * h + f) + j < 96 := by omega
    have g199 : B 199 (nI (4 * (12 * h + f) + j)).toNatClampNeg = B0 199 (4 * (12 * h + f) + j) := by rw [congrArg (B 199) (cl96 hx), h199]
    show mX12_def_31 (n + d + 1 + 1) B J x1 x2 (nI (12 * h + f)) (nI c) (nI j) = _
    rw [mX12_def_31, if_pos (in24 hq), g198, if_neg (nI_ge (by omega) (by omega)), i4p, if_pos (in96 hx), g199]
    unfold mX12_def_64
    rw [nI_1, nI_1]
    have e00 : nI c + (0 : Int32) = nI c := Int32.add_zero _
    rw [e00, ih (j + 1) n c (by omega), ih (j + 1) n (c + 1) (by omega), hc]
    rcases a5 j q hq2 with ⟨w1, _, w2⟩ | ⟨w1, _, u, p, w2, w3, w4⟩
    · rw [if_pos w2, if_neg (by omega), Nat.zero_add]
    · have hu := (tr_u w4).1
      rw [w2, if_neg (nIm (by omega)), if_pos w1, Nat.add_assoc]
theorem def_ok (H : RUN sp k h md D L B0 J0 F I B J np nm dn sd R z) (h5 : F 1 5 = k) (h17 : I 1 7 = 1) (x1 x2 : Int32) : ∃ r, mX11_def I F x1 x2 = some r ∧ mX12_def B J x1 x2 = some r := by
  obtain ⟨hK, hN, hPC⟩ := run_RK H
  have h33 : B 186 33 = 1 := H.2.1.2.2.2.1
  have h31 : B 186 31 = nI h := H.2.1.2.2.1
  have hSB := H.2.1.1
  have hJ : J 192 = J0 192 := H.2.1.2.1 192 (by omega) (by omega)
  have hBK := H.1
  have hh : h < 2 := hBK.2.1
  have d1 := hBK.2.2.2.2.2.1.1
  have d2 := hBK.2.2.2.2.2.1.2.1
  have d3 := hBK.2.2.2.2.2.1.2.2.1
  obtain ⟨r35, r37, r39, r41, r43, r45⟩ := hBK.2.2.2.2.2.2.2.2.2.1
  have hl33 : (L (k + 33)).length = D.length := by rw [d1, List.length_map]
  have b205 : B 205 h = nI D.length := by rw [hSB 205 (by omega) (by omega)]; exact d2
  have c2 : (nI h).toNatClampNeg = h := nI_clamp (by omega)
  have i2 : inb (nI h) 2 := vp_in_nI hh (by omega)
  have e10 : ¬ (1 : Int32) = 0 := by decide
  have hat : ∀ a, rkA k a → mX4_at a I x1 = some (lat (L a) x1) := fun a ha => rk_at hK ha x1
  have hs33 : mX4_size (k + 33) I = some (nI D.length) := by rw [rk_size hK (by unfold rkA; omega), hl33]
  -- both, by where x1 lies
  have hc : mX11_def I F x1 x2 = if x2 = 0 then some (lat (L (k + 43)) x1) else if x2 = 1 then (mX0_isDef k I x1).bind fun q2 => if q2 = 0 then some (-1) else (mX0_channelParams k I x1).bind fun q3 => some q3 else if x2 = 2 then some (lat (L (k + 39)) x1) else if x2 = 3 then some (lat (L (k + 41)) x1) else some (-1) := by
    unfold mX11_def
    rw [h17, if_neg e10, h5, hat (k + 43) (by unfold rkA; omega), hat (k + 39) (by unfold rkA; omega), hat (k + 41) (by unfold rkA; omega)]
    rfl
  have hr : mX12_def B J x1 x2 = (mX12_isIn x1 0 (nI D.length - 1)).bind fun q1 => if q1 = 0 then some (-1) else (mX12_isIn x2 0 3).bind fun q3 => if q3 = 0 then some (-1) else mX12_def_31 LF B J x1 x2 (12 * nI h + x1) 0 0 := by
    unfold mX12_def mX12_isDef mX12_def0
    have g205 : B 205 (nI h).toNatClampNeg = nI D.length := by rw [congrArg (B 205) c2]; exact b205
    rw [h33, if_neg e10, h31, if_pos i2, g205]
    cases hq : mX12_isIn x1 0 (nI D.length - 1) with
    | none => rfl
    | some v =>
      rw [sb, sb]
      by_cases q : v = 0
      · rw [if_pos q]
        show _ = if v = 0 then some (-1) else _
        rw [if_pos q]
        rfl
      · rw [if_neg q]
        show _ = if v = 0 then some (-1) else _
        rw [if_neg q]
        rfl
  rw [hc, hr]
  have out : ∀ (hD : mX0_isDef k I x1 = some 0) (g : ∀ a, (a = k + 43 ∨ a = k + 39 ∨ a = k + 41) → lat (L a) x1 = -1), ∃ r, (if x2 = 0 then some (lat (L (k + 43)) x1) else if x2 = 1 then (mX0_isDef k I x1).bind fun q2 => if q2 = 0 then some (-1) else (mX0_channelParams k I x1).bind fun q3 => some q3 else if x2 = 2 then some (lat (L (k + 39)) x1) else if x2 = 3 then some (lat (L (k + 41)) x1) else some (-1)) = some r ∧ (some (-1) : Option Int32) = some r := by
    intro hD g
    refine ⟨-1, ?_, rfl⟩
    rw [hD, g _ (Or.inl rfl), g _ (Or.inr (Or.inl rfl)), g _ (Or.inr (Or.inr rfl)), sb, if_pos rfl, ite_self, ite_self, ite_self, ite_self]
  rcases isn_ok (n := D.length) (by omega) x1 with ⟨hx, e⟩ | ⟨f, hf, rfl, ⟨c, e⟩ | ⟨c, e⟩⟩
  · rw [e, sb, if_pos rfl]
    exact out (by unfold mX0_isDef; rw [if_pos hx]) (fun a _ => lat_neg hx)
  · obtain ⟨ed, hed⟩ : ∃ q, D[f]? = some q := ⟨D[f]'c, List.getElem?_eq_getElem c⟩
    obtain ⟨f12, _, _, _, _, _, a2, a3, a4, a5, a6, u, κ, l, m, w, b1, b2, b3, b4, b5, b6⟩ := bk_at hBK hed
    have hq : 12 * h + f < 24 := by omega
    have e12 : (12 : Int32) * nI h + nI f = nI (12 * h + f) := i12 h f
    have hD : mX0_isDef k I (nI f) = some 1 := by
      unfold mX0_isDef
      rw [if_neg (nI_not0 hf), hs33, sb, if_neg (nI_ge c (by omega))]
    have hcp : mX0_channelParams k I (nI f) = some (nI (cch ed.2.1)) := cp_ok hK f12 (bk_go hBK hed).2.1
    have hlp := df_loop (J := J) (hSB 198 (by omega) (by omega)) (hSB 199 (by omega) (by omega)) hBK hed (nI f) x2 ed.2.1.length 0 (LF - ed.2.1.length - 1) 0 (by omega)
    rw [show LF - ed.2.1.length - 1 + ed.2.1.length + 1 = LF by unfold LF; omega, Nat.zero_add, List.drop_zero] at hlp
    have hle : mX12_least SF B J (nI u) = some (nI l) := le_ok (fun q w1 w2 => hSB q w1 (by omega)) hJ b6 b5
    have g198 : B 198 (nI (12 * h + f)).toNatClampNeg = nI ed.2.1.length := by rw [congrArg (B 198) (cl24 hq), hSB 198 (by omega) (by omega)]; exact a3
    have g202 : B 202 (nI (12 * h + f)).toNatClampNeg = nI w := by rw [congrArg (B 202) (cl24 hq), hSB 202 (by omega) (by omega)]; exact b4
    have g201 : B 201 (nI (12 * h + f)).toNatClampNeg = nI u := by rw [congrArg (B 201) (cl24 hq), hSB 201 (by omega) (by omega)]; exact b1
    rw [e, sb, if_neg e10, e12, hD, sb, if_neg e10, hcp, sb, lat_g hf, lat_g hf, lat_g hf, a2, b3, b2]
    rw [show mX12_def_31 LF B J (nI f) x2 (nI (12 * h + f)) 0 0 = defE B J x2 (nI (12 * h + f)) (nI (cch ed.2.1)) from hlp]
    unfold defE
    rw [if_pos (in24 hq), if_pos (in24 hq), if_pos (in24 hq), g198, g202, g201, hle, sb, isIn_eq, sb]
    rcases i32_cases x2 with hx | ⟨n, hn, rfl⟩
    · have n0 : ∀ y : Nat, y < 2 ^ 31 → ¬ x2 = nI y := fun y hy q => by rw [q] at hx; exact nI_not0 hy hx
      have q0 : ¬ x2 = 0 := n0 0 (by omega)
      have q1 : ¬ x2 = 1 := n0 1 (by omega)
      have q2 : ¬ x2 = 2 := n0 2 (by omega)
      have q3 : ¬ x2 = 3 := n0 3 (by omega)
      rw [if_pos (Or.inl hx), if_pos rfl, if_neg q0, if_neg q1, if_neg q2, if_neg q3]
      exact ⟨-1, rfl, rfl⟩
    · by_cases c3 : n ≤ 3
      · have k1 : ¬ (nI n < 0 ∨ (3 : Int32) < nI n) := fun y => y.elim (nI_not0 hn) (Int32.not_lt.mpr (nI_le (b := 3) c3 (by omega)))
        rw [if_neg k1, if_neg e10]
        have : n = 0 ∨ n = 1 ∨ n = 2 ∨ n = 3 := by omega
        rcases this with rfl | rfl | rfl | rfl
        · exact ⟨_, rfl, rfl⟩
        · exact ⟨_, rfl, rfl⟩
        · exact ⟨_, rfl, rfl⟩
        · exact ⟨_, rfl, rfl⟩
      · have k1 : (3 : Int32) < nI n := nI_lt (a := 3) (by omega) hn
        have n0 : ∀ y : Nat, y ≤ 3 → ¬ nI n = nI y := fun y hy q => by
          have := (nI_eq hn (by omega)).mp q
          omega
        have q0 : ¬ nI n = 0 := n0 0 (by omega)
        have q1 : ¬ nI n = 1 := n0 1 (by omega)
        have q2 : ¬ nI n = 2 := n0 2 (by omega)
        have q3 : ¬ nI n = 3 := n0 3 (by omega)
        rw [if_pos (Or.inr k1), if_pos rfl, if_neg q0, if_neg q1, if_neg q2, if_neg q3]
        exact ⟨-1, rfl, rfl⟩
  · rw [e, sb, if_pos rfl]
    refine out (by unfold mX0_isDef; rw [if_neg (nI_not0 hf), hs33, sb, if_pos (nI_le c hf)]) (fun a ha => ?_)
    rw [lat_g hf]
    exact gI_out (by rcases ha with rfl | rfl | rfl <;> omega)
end
