/-! a run starts: both (pure) -/
section
variable {k h md : Nat} {D : List Df} {L : lT} {F : fT} {I B : iT} {J : jT} {R : lT}
/-- one PROCESS with its one CHANNEL: Ts -/
theorem ty_single {al : Nat → Prop} {T : Nat} {kd va : Nat → Int32} : TYI k L 1 0 al (fun _ => [(2, T)]) (fun _ _ => 0) (fun x => x) (fun _ => (0, 0, 0)) (fun _ => T) (fun _ => T) (fun _ => []) (fun _ => 0) (fun _ => 0) kd va := by
  refine ⟨fun x hx => ⟨hx, rfl⟩, fun p _ _ => ⟨T, rfl, rfl⟩, fun p p' h1 h2 _ _ _ => by omega, fun p hp _ i t hi h => ?_, fun c _ _ => ⟨T, rfl, fun h => absurd rfl h⟩, fun c _ _ s _ => ⟨List.nodup_nil, fun m hm => by cases hm⟩, fun c _ _ h => absurd rfl h, by omega⟩
  have hl := (List.getElem?_eq_some_iff.mp h).1
  rw [List.length_singleton] at hl
  omega
theorem strt_ok (hBK : BK k h md D L B J) (hK : RK I k L) (hN : RN I R) (h176 : (R 176).length = 6800) (h31 : B 186 31 = nI h) (h33 : B 186 33 = 1) (h76 : B 186 76 = nI 0) : ∃ I' B', mX6_start k I F = some (I', a_u2 F 148 12 k) ∧ mX12_begins B J = some B' ∧ RUNR k h md D L B J (a_u2 F 148 12 k) I' B' J ∧ (∀ q, q < 148 → q ≠ k + 27 → q ≠ k + 28 → I' q = I q) ∧ (∀ q i, ¬ (q = 186 ∧ 60 ≤ i ∧ i ≤ 65) → ¬ (q = 186 ∧ i = 76) → q ≠ 229 → ¬ (212 ≤ q ∧ q ≤ 222) → B' q i = B q i) := by
  have hk := hK.1
  obtain ⟨D', e, hD, he⟩ := hBK.2.2.2.2.2.2.2.1
  obtain ⟨d1, d2, d3, _⟩ := hBK.2.2.2.2.2.1
  have hDf : D[D'.length]? = some e := by rw [hD, List.getElem?_append_right (Nat.le_refl _), Nat.sub_self]; rfl
  have hDl : D.length = D'.length + 1 := by rw [hD, List.length_append, List.length_singleton]
  obtain ⟨o1, o2, o3, u, κ, l, m, Q, Rn, Rc, o4, o5, o6, o7⟩ := bk_go hBK hDf
  have hF' : (a_u2 F 148 12 k) 148 12 = k := a_u2_s _ _ _ _
  -- the class
  obtain ⟨I1, R1, c1, c2, c3, c4, c5⟩ := clr_ok hN
  obtain ⟨I2, hI2⟩ : ∃ X, X = a_u2 (a_u2 (a_u2 I1 148 13 0) 148 14 0) 148 15 0 := ⟨_, rfl⟩
  have f2 : ∀ q, q ≠ 148 → I2 q = I1 q := fun q hq => funext fun i => by rw [hI2, a_u2_n _ _ (by omega), a_u2_n _ _ (by omega), a_u2_n _ _ (by omega)]
  have v13 : I2 148 13 = 0 := by rw [hI2, a_u2_n _ _ (by omega), a_u2_n _ _ (by omega), a_u2_s]
  have v14 : I2 148 14 = 0 := by rw [hI2, a_u2_n _ _ (by omega), a_u2_s]
  have v15 : I2 148 15 = 0 := by rw [hI2, a_u2_s]
  have hN2 : RN I2 R1 := rn_keep c2 (fun a w1 w2 => f2 a (by omega))
  have hK2 : RK I2 k L := rk_keep hK (fun a w1 w2 => by rw [f2 a (by omega), c5 a (by omega)])
  obtain ⟨I3, R3, a1, a2, a150, a152, a154, a156, a164, a166, a168, a170, a172, a174, a176, aR, aI⟩ := add_ok hN2 (np := 0) (by omega) ⟨by rw [c3 150 (by omega)]; rfl, by rw [c3 152 (by omega)]; rfl, by rw [c3 154 (by omega)]; rfl, by rw [c3 156 (by omega)]; rfl⟩ ⟨by rw [c3 164 (by omega)]; rfl, by rw [c3 166 (by omega)]; rfl, by rw [c3 168 (by omega)]; rfl, by rw [c3 170 (by omega)]; rfl, by rw [c3 172 (by omega)]; rfl, by rw [c3 174 (by omega)]; rfl⟩
  have hK3 := rk_keep hK2 (I' := I3) (fun a w1 w2 => aI a (by omega))
  have l176 : (R3 176).length = 6800 := by rw [a176, List.length_set, c4]; exact h176
  obtain ⟨I4, R4, b1, b2, b3, b164, b166, b172, bl, bs, bo, bR, bI⟩ := gn_ok (p := 0) (F := a_u2 F 148 12 k) hF' hK3 a2 (by omega) o1 o5 o2 (vc := []) (by rw [aR 178 (by omega) (by omega) (by omega) (by omega) (by omega) (by omega) (by omega) (by omega) (by omega) (by omega) (by omega)]; exact c3 178 (by omega)) (by simp) (by rw [l176]; omega)
  -- the reference
  obtain ⟨B1, r1, r60, r61, r62, r63, r64, r65, r219, r215, r216, r217, r214, r218, r220, r221, r212, r213, rB⟩ := bgn_ok (B := B) hBK.2.1 o1 h31 (by rw [d2, hDl])
  -- both
  have e0 : ∀ x : Nat, x < 1 → x = 0 := fun x hx => by omega
  have i164 : R4 164 = [nI D'.length] := by rw [b164, a164, c3 164 (by omega)]; rfl
  have i166 : R4 166 = [nI κ] := by rw [b166, a166, c3 166 (by omega)]; rfl
  have i168 : R4 168 = [0] := by rw [bR 168 (by omega) (by omega) (by omega) (by omega), a168, c3 168 (by omega)]; rfl
  have i170 : R4 170 = [0] := by rw [bR 170 (by omega) (by omega) (by omega) (by omega), a170, c3 170 (by omega)]; rfl
  have i172 : R4 172 = [0] := by rw [b172, a172, c3 172 (by omega), he]; rfl
  have i174 : R4 174 = [0] := by rw [bR 174 (by omega) (by omega) (by omega) (by omega), a174, c3 174 (by omega)]; rfl
  have i150 : R4 150 = [-1] := by rw [bR 150 (by omega) (by omega) (by omega) (by omega), a150, c3 150 (by omega)]; rfl
  have i152 : R4 152 = [-1, -1] := by rw [bR 152 (by omega) (by omega) (by omega) (by omega), a152, c3 152 (by omega)]; rfl
  have i154 : R4 154 = [-1, -1] := by rw [bR 154 (by omega) (by omega) (by omega) (by omega), a154, c3 154 (by omega)]; rfl
  have i156 : R4 156 = [0, 0] := by rw [bR 156 (by omega) (by omega) (by omega) (by omega), a156, c3 156 (by omega)]; rfl
  have iz : ∀ a, (a = 158 ∨ a = 160 ∨ a = 162 ∨ a = 182 ∨ a = 184) → R4 a = [] := fun a ha => by rw [bR a (by omega) (by omega) (by omega) (by omega), aR a (by omega) (by omega) (by omega) (by omega) (by omega) (by omega) (by omega) (by omega) (by omega) (by omega) (by omega), c3 a (by omega)]
  have s176 : gI (R4 176) (0 * 85 + 0) = nI 0 := by
    rw [bo _ (fun j hj => by simp at hj), a176]
    exact gI_se (by rw [c4, h176]; omega) _
  have j148 : I4 148 = I2 148 := by rw [bI 148 (by omega), aI 148 (by omega)]
  have H : RUN 0 k h md D L B J (a_u2 F 148 12 k) I4 B1 J 1 0 0 0 R4 (fun _ => False) := by
    refine ⟨hBK, ⟨fun q w1 w2 => funext fun i => rB q i (by omega) (by omega), fun _ _ _ => rfl, by rw [rB _ _ (by omega) (by omega)]; exact h31, by rw [rB _ _ (by omega) (by omega)]; exact h33, by rw [rB _ _ (by omega) (by omega)]; exact h76⟩, hF', b2, b3, ⟨⟨by rw [i164]; rfl, by rw [i166]; rfl, by rw [i168]; rfl, by rw [i170]; rfl, by rw [i172]; rfl, by rw [i174]; rfl, by rw [bl]; exact l176⟩, fun p hp => ?_⟩, ⟨r60, r61, by rw [j148]; exact v14, r62, by omega, by omega, r64, by rw [j148]; exact v13, r63, by omega, by rw [j148, v15, r65], r65⟩, ⟨by rw [iz 182 (by omega)]; rfl, by rw [iz 184 (by omega)]; rfl, fun i hi => by simp at hi⟩, _, _, _, fun _ => 0, _, _, _, _, _, _, ty_single (T := e.2.2), ⟨by rw [i150]; rfl, by omega, fun x hx => ?_⟩, fun x _ => Nat.zero_le _, ⟨by omega, by omega, by rw [i152]; rfl, by rw [i154]; rfl, by rw [i156]; rfl, by rw [iz 158 (by omega)]; rfl, by rw [iz 160 (by omega)]; rfl, by rw [iz 162 (by omega)]; rfl⟩, fun c hc _ s hs => ?_, fun p hp _ => ?_⟩
    · rw [e0 p hp, i168, i170, i174, i172, i164, r219, r215, r216, r214, r212, r217]
      exact ⟨Or.inl rfl, rfl, rfl, rfl, rfl, rfl, fun _ => rfl, fun w => absurd w (by decide), s176⟩
    · rw [e0 x hx]
      exact ⟨Nat.zero_lt_one, Nat.zero_le _, Or.inl ⟨by rw [i150]; rfl, r220, rfl⟩⟩
    · rw [e0 c hc, show 2 * 0 + s = s by omega]
      refine ⟨⟨?_, trivial, fun a z h => by cases a <;> cases h⟩, ⟨(r221 s hs).1, fun a z h => by cases a <;> cases h⟩, fun m hm => by cases hm⟩
      have : s = 0 ∨ s = 1 := by omega
      rcases this with rfl | rfl <;> rw [i156] <;> rfl
    · rw [e0 p hp]
      rw [he] at o3 o7
      refine ⟨D'.length, e, u, κ, l, m, Q, Rn, Rc, hDf, by rw [i164]; rfl, by rw [i166]; rfl, by rw [r213]; exact o4, by rw [he]; exact o7, o6, by rw [he]; exact Nat.le_refl _, by simp, o3, fun i t hi => ?_, fun i t hi => ?_, fun hz => hz.elim⟩
      · have hl := (List.getElem?_eq_some_iff.mp hi).1
        rw [List.length_singleton] at hl
        have : i = 0 := by omega
        subst this
        exact absurd (congrArg Prod.fst (Option.some.inj hi)) (show (2 : Nat) ≠ 1 by omega)
      · have hl := (List.getElem?_eq_some_iff.mp hi).1
        rw [List.length_singleton] at hl
        have : i = 0 := by omega
        subst this
        refine ⟨0, 0, s176, ?_, by omega, by omega, rfl, rfl⟩
        rw [he]
        exact r218
  have H1 := run_z (z' := fun y => y ≠ 0) H (fun y hy _ hz => absurd (e0 y hy) hz)
  obtain ⟨κ1, u1, κ', u', g1, g2, g3, g4, g5⟩ := set_ok H1 (x := 0) (by omega) (by rw [i168]; rfl)
  obtain ⟨I5, R5, m1, m2, m3, m4, m5, m6⟩ := g3 I4 R4 b2 b3 (fun _ _ => rfl) g1 (by rw [i166]; exact Nat.zero_lt_one)
  obtain ⟨B2, n1, n2, n3, n4⟩ := g4 B1 H.2.1.1 (fun _ _ => rfl) H.2.1.2.2.2.2 g2
  have H2 := g5 I5 B2 R5 (fun _ => True) m2 m3 m4 m5 m6 n2 n3 n4 (fun y hy _ => hy)
  obtain ⟨I6, R6, p1, p2, p3, _, p5⟩ := fr_ok H2
  refine ⟨I6, B2, ?_, by rw [r1 J]; exact n1, ⟨0, 1, 0, 0, 0, R6, p2, Or.inl ⟨rfl, p3⟩⟩, fun q w1 w2 w3 => ?_, fun q i w1 w2 w3 w4 => ?_⟩
  · have em : nI (L (k + 33)).length - 1 = nI D'.length := by
      rw [d1, List.length_map, hDl]
      exact nI_pred _
    unfold mX6_start
    refine (c1 _).trans ?_
    show ((mX6_addProcess (a_u2 (a_u2 (a_u2 I1 148 13 0) 148 14 0) 148 15 0)).bind _) = _
    rw [← hI2, a1, sb]
    show ((mX4_size ((a_u2 F 148 12 k) 148 12 + 33) I3).bind fun q13 => (mX6_goOn I3 (a_u2 F 148 12 k) 0 (q13 - 1)).bind fun q14 => (mX6_settle q14 (a_u2 F 148 12 k) 0).bind fun q15 => (mX6_findReady q15 (a_u2 F 148 12 k)).bind fun q16 => some (q16, a_u2 F 148 12 k)) = _
    rw [hF', rk_size hK3 (a := k + 33) (by unfold rkA; omega), sb, em]
    show ((mX6_goOn I3 (a_u2 F 148 12 k) (nI 0) (nI D'.length)).bind _) = _
    rw [b1, sb]
    show ((mX6_settle I4 (a_u2 F 148 12 k) (nI 0)).bind _) = _
    rw [m1, sb, p1, sb]
  · rw [p5 q (by omega) (by omega), m6 q (by omega) (by omega) w2 w3, bI q (by omega), aI q (by omega), f2 q (by omega), c5 q (by omega)]
  · rw [n4 q i w2 w3 (by omega), rB q i w1 w4]
end
