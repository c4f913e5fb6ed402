/-! A PROCESS AND A CHANNEL ARE MADE, in both (pure) -/
theorem fre_ok {B : iT} {x : Nat} (hx : x < 80) : mX12_fresh0 B (nI x) = some (a_u2 (a_u2 (a_u2 (a_u2 B 219 x 0) 215 x 0) 216 x 0) 217 x 0) := by
  unfold mX12_fresh0
  rw [if_pos (in80 hx), if_pos (in80 hx), if_pos (in80 hx), if_pos (in80 hx), cl80 hx]
theorem nch_ok {B : iT} {x : Nat} (hx : x < 80) (h61 : B 186 61 = nI x) : ∃ B', mX12_newChannel B = some (nI x, B') ∧ B' 186 61 = nI (x + 1) ∧ B' 220 x = nI x ∧ (∀ s, s < 2 → B' 221 (2 * x + s) = -1 ∧ B' 222 (2 * x + s) = -1) ∧ (∀ q i, ¬ (q = 186 ∧ i = 61) → ¬ (q = 220 ∧ i = x) → ¬ ((q = 221 ∨ q = 222) ∧ 2 * x ≤ i ∧ i ≤ 2 * x + 1) → B' q i = B q i) := by
  have e0 : (2 : Int32) * nI x + 0 = nI (2 * x) := r2s x 0
  have e1 : (2 : Int32) * nI x + (0 + 1) = nI (2 * x + 1) := r2s x 1
  refine ⟨a_u2 (a_u2 (a_u2 (a_u2 (a_u2 (a_u2 B 186 61 (nI (x + 1))) 220 x (nI x)) 221 (2 * x) (-1)) 222 (2 * x) (-1)) 221 (2 * x + 1) (-1)) 222 (2 * x + 1) (-1), ?_, ?_, ?_, fun s hs => ?_, fun q i w1 w2 w3 => ?_⟩
  · unfold mX12_newChannel
    rw [h61, if_pos (in80 hx), nI_1, cl80 hx]
    show mX12_newChannel_24 (LF - 3 + 1 + 1 + 1) _ (nI x) 0 = _
    rw [mX12_newChannel_24, if_neg (by decide), e0, if_pos (in160 (by omega)), if_pos (in160 (by omega)), cl160 (by omega), mX12_newChannel_24, if_neg (by decide), e1, if_pos (in160 (by omega)), if_pos (in160 (by omega)), cl160 (by omega), mX12_newChannel_24, if_pos (by decide)]
  · rw [a_u2_n _ _ (by omega), a_u2_n _ _ (by omega), a_u2_n _ _ (by omega), a_u2_n _ _ (by omega), a_u2_n _ _ (by omega), a_u2_s]
  · rw [a_u2_n _ _ (by omega), a_u2_n _ _ (by omega), a_u2_n _ _ (by omega), a_u2_n _ _ (by omega), a_u2_s]
  · have : s = 0 ∨ s = 1 := by omega
    rcases this with rfl | rfl
    · refine ⟨?_, ?_⟩
      · rw [a_u2_n _ _ (by omega), a_u2_n _ _ (by omega), a_u2_n _ _ (by omega)]
        exact a_u2_s _ _ _ _
      · rw [a_u2_n _ _ (by omega), a_u2_n _ _ (by omega)]
        exact a_u2_s _ _ _ _
    · refine ⟨?_, ?_⟩
      · rw [a_u2_n _ _ (by omega), a_u2_s]
      · rw [a_u2_s]
  · rw [a_u2_n _ _ (by omega), a_u2_n _ _ (by omega), a_u2_n _ _ (by omega), a_u2_n _ _ (by omega), a_u2_n _ _ (by omega), a_u2_n _ _ (by omega)]
section
variable {k h p n np u fd n1 : Nat} {B0 B : iT} {J : jT} {sr : Nat → Int32} {x : Int32} {ps : Gm} {vr : List Int32}
theorem mak_ok (hp : p < np) (hnp : np < 80) (hu : u < 2800) (hh : h < 2) (hfd : fd < 12) (hn1 : n1 < 85) (h60 : B 186 60 = nI np) (h61 : B 186 61 = nI np) (hB : ∀ q, 188 ≤ q → q ≤ 205 → B q = B0 q) (hJ : J 192 u = lN fd) (h190 : B0 190 u = x) (h189 : B0 189 u = nI n1) (h31 : B 186 31 = nI h) (hr : GAr p n B0 sr x ps vr) (hn : n ≤ 4) (hs : ∀ i, i < 85 → B 218 (128 * p + sg n i) = sr i) (h76 : B 186 76 = nI 0) (h4 : ps.length ≤ 4) :
    ∃ B', mX12_makes B J (nI p) (nI u) = mX12_settles B' J (nI np) ∧ B' 186 60 = nI (np + 1) ∧ B' 186 61 = nI (np + 1) ∧ B' 186 76 = nI 0 ∧ B' 219 np = 0 ∧ B' 215 np = 0 ∧ B' 216 np = 0 ∧ B' 217 np = nI (cch ps) ∧ B' 217 p = B 217 p + (1 - nI (cch ps)) ∧ B' 214 np = nI np ∧ B' 212 np = nI fd ∧ B' 213 np = B0 201 (12 * h + fd) ∧ B' 220 np = nI np ∧ (∀ s, s < 2 → B' 221 (2 * np + s) = -1 ∧ B' 222 (2 * np + s) = -1) ∧ (∀ i, i < ps.length → B' 218 (128 * np + i) = gI vr i) ∧ B' 218 (128 * np + ps.length) = nI np ∧ B' 218 (128 * p + n1) = nI np ∧ (∀ q i, ¬ (q = 186 ∧ (i = 60 ∨ i = 61 ∨ i = 76)) → q ≠ 229 → q ≠ 230 → ¬ ((q = 212 ∨ q = 213 ∨ q = 214 ∨ q = 215 ∨ q = 216 ∨ q = 217 ∨ q = 219 ∨ q = 220) ∧ i = np) → ¬ (q = 217 ∧ i = p) → ¬ ((q = 221 ∨ q = 222) ∧ 2 * np ≤ i ∧ i ≤ 2 * np + 1) → ¬ (q = 218 ∧ 128 * np ≤ i ∧ i ≤ 128 * np + ps.length) → ¬ (q = 218 ∧ i = 128 * p + n1) → B' q i = B q i) := by
  have hp80 : p < 80 := by omega
  obtain ⟨Bb, hBb⟩ : ∃ X, X = a_u2 (a_u2 (a_u2 (a_u2 (a_u2 B 186 60 (nI (np + 1))) 219 np 0) 215 np 0) 216 np 0) 217 np 0 := ⟨_, rfl⟩
  have fb : ∀ q i, ¬ (q = 186 ∧ i = 60) → ¬ ((q = 219 ∨ q = 215 ∨ q = 216 ∨ q = 217) ∧ i = np) → Bb q i = B q i := fun q i w1 w2 => by rw [hBb, a_u2_n _ _ (by omega), a_u2_n _ _ (by omega), a_u2_n _ _ (by omega), a_u2_n _ _ (by omega), a_u2_n _ _ (by omega)]
  have vb : Bb 186 60 = nI (np + 1) ∧ Bb 219 np = 0 ∧ Bb 215 np = 0 ∧ Bb 216 np = 0 := by
    refine ⟨?_, ?_, ?_, ?_⟩
    · rw [hBb, a_u2_n _ _ (by omega), a_u2_n _ _ (by omega), a_u2_n _ _ (by omega), a_u2_n _ _ (by omega), a_u2_s]
    · rw [hBb, a_u2_n _ _ (by omega), a_u2_n _ _ (by omega), a_u2_n _ _ (by omega), a_u2_s]
    · rw [hBb, a_u2_n _ _ (by omega), a_u2_n _ _ (by omega), a_u2_s]
    · rw [hBb, a_u2_n _ _ (by omega), a_u2_s]
  obtain ⟨Bc, c1, c2, c3, c4, c5⟩ := nch_ok (B := Bb) hnp (by rw [fb _ _ (by omega) (by omega)]; exact h61)
  obtain ⟨Bd, hBd⟩ : ∃ X, X = a_u2 Bc 214 np (nI np) := ⟨_, rfl⟩
  have fd' : ∀ q i, ¬ (q = 186 ∧ (i = 60 ∨ i = 61)) → ¬ ((q = 219 ∨ q = 215 ∨ q = 216 ∨ q = 217 ∨ q = 220 ∨ q = 214) ∧ i = np) → ¬ ((q = 221 ∨ q = 222) ∧ 2 * np ≤ i ∧ i ≤ 2 * np + 1) → Bd q i = B q i := fun q i w1 w2 w3 => by rw [hBd, a_u2_n _ _ (by omega), c5 q i (by omega) (by omega) w3, fb q i (by omega) (by omega)]
  have hBd0 : ∀ q, 188 ≤ q → q ≤ 205 → Bd q = B0 q := fun q w1 w2 => by rw [← hB q w1 w2]; exact funext fun i => fd' q i (by omega) (by omega) (by omega)
  obtain ⟨Be, e1, e2, e3, e4, e5⟩ := ts_ok (p := p) (p2 := np) (B := Bd) hnp hr hBd0 (fun i hi => by rw [fd' _ _ (by omega) (by omega) (by omega)]; exact hs i hi) (by rw [fd' _ _ (by omega) (by omega) (by omega)]; exact h76) h4 (nI fd)
  obtain ⟨Bf, hBf⟩ : ∃ X, X = a_u2 (a_u2 Be 217 np (nI (cch ps))) 217 p (a_u2 Be 217 np (nI (cch ps)) 217 p + (1 - nI (cch ps))) := ⟨_, rfl⟩
  have ff : ∀ q i, ¬ (q = 217 ∧ (i = np ∨ i = p)) → Bf q i = Be q i := fun q i w => by rw [hBf, a_u2_n _ _ (by omega), a_u2_n _ _ (by omega)]
  obtain ⟨Bg, hBg⟩ : ∃ X, X = a_u2 Bf 218 (128 * p + n1) (nI np) := ⟨_, rfl⟩
  have d214 : Bd 214 np = nI np := by rw [hBd, a_u2_s]
  have e214 : Be 214 np = nI np := by rw [e5 _ _ (by omega) (by omega) (by omega) (by omega)]; exact d214
  have f214 : Bf 214 np = nI np := by rw [ff _ _ (by omega)]; exact e214
  have g31 : Bg 186 31 = nI h := by rw [hBg, a_u2_n _ _ (by omega), ff _ _ (by omega), e5 _ _ (by omega) (by omega) (by omega) (by omega), fd' _ _ (by omega) (by omega) (by omega)]; exact h31
  have hen := en_ok (B := Bg) (p := np) (fd := fd) hnp hh g31 hfd
  obtain ⟨B', hB'⟩ : ∃ X, X = a_u2 (a_u2 Bg 212 np (nI fd)) 213 np (Bg 201 (12 * h + fd)) := ⟨_, rfl⟩
  rw [← hB'] at hen
  have f1 : ∀ q i, ¬ ((q = 212 ∨ q = 213) ∧ i = np) → ¬ (q = 218 ∧ i = 128 * p + n1) → ¬ (q = 217 ∧ (i = np ∨ i = p)) → B' q i = Be q i := fun q i w1 w2 w3 => by rw [hB', a_u2_n _ _ (by omega), a_u2_n _ _ (by omega), hBg, a_u2_n _ _ w2, ff q i w3]
  have f2 : ∀ q i, ¬ ((q = 212 ∨ q = 213) ∧ i = np) → ¬ (q = 218 ∧ i = 128 * p + n1) → ¬ (q = 217 ∧ (i = np ∨ i = p)) → ¬ (q = 186 ∧ i = 76) → q ≠ 229 → q ≠ 230 → ¬ (q = 218 ∧ 128 * np ≤ i ∧ i ≤ 128 * np + ps.length) → B' q i = Bd q i := fun q i w1 w2 w3 w4 w5 w6 w7 => by rw [f1 q i w1 w2 w3, e5 q i w4 w5 w6 w7]
  have d1 : ∀ q i, ¬ (q = 214 ∧ i = np) → Bd q i = Bc q i := fun q i w => by rw [hBd, a_u2_n _ _ w]
  have e217 : Be 217 p = B 217 p := by rw [e5 _ _ (by omega) (by omega) (by omega) (by omega), fd' _ _ (by omega) (by omega) (by omega)]
  refine ⟨B', ?_, ?_, ?_, ?_, ?_, ?_, ?_, ?_, ?_, ?_, ?_, ?_, ?_, fun s hs' => ⟨?_, ?_⟩, fun i hi => ?_, ?_, ?_, fun q i w1 w2 w3 w4 w5 w6 w7 w8 => ?_⟩
  · have eJ : (J 192 u).toInt32 = nI fd := by rw [hJ, lN_i]
    unfold mX12_makes
    rw [h60]
    simp only [if_pos (in80 hnp), if_pos (in80 hp80), if_pos (in28 hu), cl80 hnp, cl80 hp80, cl28 hu, eJ, nI_1]
    rw [fre_ok hnp, sb, ← hBb, c1, sb]
    show ((mX12_tells (a_u2 Bc 214 np (nI np)) (nI p) (nI np) (a_u2 Bc 214 np (nI np) 190 u) (nI fd)).bind _) = _
    rw [← hBd, hBd0 190 (by omega) (by omega), h190, e1, sb]
    show (if inb ((128 * nI p) + (a_u2 (a_u2 Be 217 np (nI (cch ps))) 217 p (a_u2 Be 217 np (nI (cch ps)) 217 p + (1 - nI (cch ps)))) 189 u) 10240 then (mX12_enters (a_u2 (a_u2 (a_u2 Be 217 np (nI (cch ps))) 217 p (a_u2 Be 217 np (nI (cch ps)) 217 p + (1 - nI (cch ps)))) 218 ((128 * nI p) + (a_u2 (a_u2 Be 217 np (nI (cch ps))) 217 p (a_u2 Be 217 np (nI (cch ps)) 217 p + (1 - nI (cch ps)))) 189 u).toNatClampNeg ((a_u2 (a_u2 Be 217 np (nI (cch ps))) 217 p (a_u2 Be 217 np (nI (cch ps)) 217 p + (1 - nI (cch ps)))) 214 np)) (nI np) (nI fd)).bind (fun q4 => (mX12_settles q4 J (nI np)).bind fun q5 => some q5) else none) = _
    have f189 : Bf 189 u = nI n1 := by rw [ff _ _ (by omega), e5 _ _ (by omega) (by omega) (by omega) (by omega), hBd0 189 (by omega) (by omega)]; exact h189
    rw [← hBf, f189, f214, i128, if_pos (show inb (nI (128 * p + n1)) 10240 from vp_in_nI (by omega) (by omega)), nI_clamp (by omega), ← hBg, hen, sb]
    exact bsome _
  · rw [f2 _ _ (by omega) (by omega) (by omega) (by omega) (by omega) (by omega) (by omega), d1 _ _ (by omega), c5 _ _ (by omega) (by omega) (by omega)]; exact vb.1
  · rw [f2 _ _ (by omega) (by omega) (by omega) (by omega) (by omega) (by omega) (by omega), d1 _ _ (by omega)]; exact c2
  · rw [f1 _ _ (by omega) (by omega) (by omega)]; exact e4
  · rw [f2 _ _ (by omega) (by omega) (by omega) (by omega) (by omega) (by omega) (by omega), d1 _ _ (by omega), c5 _ _ (by omega) (by omega) (by omega)]; exact vb.2.1
  · rw [f2 _ _ (by omega) (by omega) (by omega) (by omega) (by omega) (by omega) (by omega), d1 _ _ (by omega), c5 _ _ (by omega) (by omega) (by omega)]; exact vb.2.2.1
  · rw [f2 _ _ (by omega) (by omega) (by omega) (by omega) (by omega) (by omega) (by omega), d1 _ _ (by omega), c5 _ _ (by omega) (by omega) (by omega)]; exact vb.2.2.2
  · rw [hB', a_u2_n _ _ (by omega), a_u2_n _ _ (by omega), hBg, a_u2_n _ _ (by omega), hBf, a_u2_n _ _ (by omega), a_u2_s]
  · rw [hB', a_u2_n _ _ (by omega), a_u2_n _ _ (by omega), hBg, a_u2_n _ _ (by omega), hBf, a_u2_s, a_u2_n _ _ (by omega), e217]
  · rw [f1 _ _ (by omega) (by omega) (by omega)]; exact e214
  · rw [hB', a_u2_n _ _ (by omega), a_u2_s]
  · rw [hB', a_u2_s, hBg, a_u2_n _ _ (by omega), ff _ _ (by omega), e5 _ _ (by omega) (by omega) (by omega) (by omega), hBd0 201 (by omega) (by omega)]
  · rw [f2 _ _ (by omega) (by omega) (by omega) (by omega) (by omega) (by omega) (by omega), d1 _ _ (by omega)]; exact c3
  · rw [f2 _ _ (by omega) (by omega) (by omega) (by omega) (by omega) (by omega) (by omega), d1 _ _ (by omega)]; exact (c4 s hs').1
  · rw [f2 _ _ (by omega) (by omega) (by omega) (by omega) (by omega) (by omega) (by omega), d1 _ _ (by omega)]; exact (c4 s hs').2
  · rw [f1 _ _ (by omega) (by omega) (by omega)]; exact e2 i hi
  · rw [f1 _ _ (by omega) (by omega) (by omega), e3]; exact d214
  · rw [hB', a_u2_n _ _ (by omega), a_u2_n _ _ (by omega), hBg, a_u2_s]
  · rw [f2 q i (by omega) w8 (by omega) (by omega) w2 w3 w7, fd' q i (by omega) (by omega) w6]
end
/-- the class opens a CHANNEL, makes a PROCESS -/
theorem opn_ok {I : iT} {R : lT} {np : Nat} (hN : RN I R) (hnp : np < 80) (h150 : (R 150).length = np) (h2 : (R 152).length = 2 * np ∧ (R 154).length = 2 * np ∧ (R 156).length = 2 * np) : ∃ I' R', mX1_open I = some (nI np, I') ∧ RN I' R' ∧ R' 150 = R 150 ++ [-1] ∧ R' 152 = R 152 ++ [-1] ++ [-1] ∧ R' 154 = R 154 ++ [-1] ++ [-1] ∧ R' 156 = R 156 ++ [0] ++ [0] ∧ (∀ a, a ≠ 150 → a ≠ 152 → a ≠ 154 → a ≠ 156 → R' a = R a) ∧ (∀ q, ¬ (150 ≤ q ∧ q ≤ 157) → I' q = I q) := by
  have one : ∀ (I : iT) (R : lT) (x : Int32) (m j : Nat), RN I R → (R 152).length < 160 → (R 154).length < 160 → (R 156).length < 160 → ¬ (1 : Int32) < x → ∃ I' R', mX1_open_2 (m + 1) I x = mX1_open_2 m I' (x + 1) ∧ RN I' R' ∧ R' 152 = R 152 ++ [-1] ∧ R' 154 = R 154 ++ [-1] ∧ R' 156 = R 156 ++ [0] ∧ (∀ a, a ≠ 152 → a ≠ 154 → a ≠ 156 → R' a = R a) ∧ (∀ q, ¬ (150 ≤ q ∧ q ≤ 157) → I' q = I q) := by
    intro I R x m j hN h1 h2 h3 hx
    obtain ⟨I1, a1, a2, a3⟩ := rn_add hN (a := 152) (by unfold rnA; omega) (by show _ < 160; omega) (-1)
    obtain ⟨I2, b1, b2, b3⟩ := rn_add a2 (a := 154) (by unfold rnA; omega) (by rw [upL_n _ _ (by omega)]; show _ < 160; omega) (-1)
    obtain ⟨I3, c1, c2, c3⟩ := rn_add b2 (a := 156) (by unfold rnA; omega) (by rw [upL_n _ _ (by omega), upL_n _ _ (by omega)]; show _ < 160; omega) 0
    refine ⟨I3, _, ?_, c2, ?_, ?_, ?_, fun a w1 w2 w3 => ?_, fun q w => ?_⟩
    · rw [mX1_open_2, if_neg hx, a1, sb, b1, sb, c1, sb]
    · rw [upL_n _ _ (by omega), upL_n _ _ (by omega), upL_s]
    · rw [upL_n _ _ (by omega), upL_s, upL_n _ _ (by omega)]
    · rw [upL_s, upL_n _ _ (by omega), upL_n _ _ (by omega)]
    · rw [upL_n _ _ w3, upL_n _ _ w2, upL_n _ _ w1]
    · rw [c3 q (by omega) (by omega), b3 q (by omega) (by omega), a3 q (by omega) (by omega)]
  obtain ⟨I1, R1, a1, a2, a3, a4, a5, a6, a7⟩ := one I R 0 (LF - 1) 0 hN (by omega) (by omega) (by omega) (by decide)
  obtain ⟨I2, R2, b1, b2, b3, b4, b5, b6, b7⟩ := one I1 R1 (0 + 1) (LF - 2) 0 a2 (by rw [a3, List.length_append, List.length_singleton]; omega) (by rw [a4, List.length_append, List.length_singleton]; omega) (by rw [a5, List.length_append, List.length_singleton]; omega) (by decide)
  have r150 : R2 150 = R 150 := by rw [b6 _ (by omega) (by omega) (by omega), a6 _ (by omega) (by omega) (by omega)]
  obtain ⟨I3, c1, c2, c3⟩ := rn_add b2 (a := 150) (by unfold rnA; omega) (by rw [r150, h150]; show _ < 80; omega) (-1)
  refine ⟨I3, _, ?_, c2, ?_, ?_, ?_, ?_, fun a w1 w2 w3 w4 => ?_, fun q w => ?_⟩
  · unfold mX1_open
    show mX1_open_2 (LF - 1 + 1) I 0 = _
    rw [a1]
    show mX1_open_2 (LF - 2 + 1) I1 (0 + 1) = _
    rw [b1]
    show mX1_open_2 (LF - 3 + 1) I2 (0 + 1 + 1) = _
    rw [mX1_open_2, if_pos (by decide), c1, sb, r150, h150]
  · rw [upL_s, r150]
  · rw [upL_n _ _ (by omega), b3, a3]
  · rw [upL_n _ _ (by omega), b4, a4]
  · rw [upL_n _ _ (by omega), b5, a5]
  · rw [upL_n _ _ w1, b6 a w2 w3 w4, a6 a w2 w3 w4]
  · rw [c3 q (by omega) (by omega), b7 q w, a7 q w]
theorem add_ok {I : iT} {R : lT} {np : Nat} (hN : RN I R) (hnp : np < 80) (hl : (R 150).length = np ∧ (R 152).length = 2 * np ∧ (R 154).length = 2 * np ∧ (R 156).length = 2 * np) (hl2 : (R 164).length = np ∧ (R 166).length = np ∧ (R 168).length = np ∧ (R 170).length = np ∧ (R 172).length = np ∧ (R 174).length = np) : ∃ I' R', mX6_addProcess I = some (nI np, I') ∧ RN I' R' ∧ R' 150 = R 150 ++ [-1] ∧ R' 152 = R 152 ++ [-1] ++ [-1] ∧ R' 154 = R 154 ++ [-1] ++ [-1] ∧ R' 156 = R 156 ++ [0] ++ [0] ∧ R' 164 = R 164 ++ [-1] ∧ R' 166 = R 166 ++ [-1] ∧ R' 168 = R 168 ++ [0] ∧ R' 170 = R 170 ++ [0] ∧ R' 172 = R 172 ++ [0] ∧ R' 174 = R 174 ++ [0] ∧ R' 176 = (R 176).set (np * 85 + 0) (nI np) ∧ (∀ a, a ≠ 150 → a ≠ 152 → a ≠ 154 → a ≠ 156 → a ≠ 164 → a ≠ 166 → a ≠ 168 → a ≠ 170 → a ≠ 172 → a ≠ 174 → a ≠ 176 → R' a = R a) ∧ (∀ q, ¬ (150 ≤ q ∧ q ≤ 177) → I' q = I q) := by
  obtain ⟨I1, a1, a2, a3⟩ := rn_add hN (a := 164) (by unfold rnA; omega) (by show _ < 80; omega) (-1)
  obtain ⟨I2, b1, b2, b3⟩ := rn_add a2 (a := 166) (by unfold rnA; omega) (by rw [upL_n _ _ (by omega)]; show _ < 80; omega) (-1)
  obtain ⟨I3, c1, c2, c3⟩ := rn_add b2 (a := 168) (by unfold rnA; omega) (by rw [upL_n _ _ (by omega), upL_n _ _ (by omega)]; show _ < 80; omega) 0
  obtain ⟨I4, d1, d2, d3⟩ := rn_add c2 (a := 170) (by unfold rnA; omega) (by rw [upL_n _ _ (by omega), upL_n _ _ (by omega), upL_n _ _ (by omega)]; show _ < 80; omega) 0
  obtain ⟨I5, e1, e2, e3⟩ := rn_add d2 (a := 172) (by unfold rnA; omega) (by rw [upL_n _ _ (by omega), upL_n _ _ (by omega), upL_n _ _ (by omega), upL_n _ _ (by omega)]; show _ < 80; omega) 0
  obtain ⟨I6, f1, f2, f3⟩ := rn_add e2 (a := 174) (by unfold rnA; omega) (by rw [upL_n _ _ (by omega), upL_n _ _ (by omega), upL_n _ _ (by omega), upL_n _ _ (by omega), upL_n _ _ (by omega)]; show _ < 80; omega) 0
  obtain ⟨R6, hR6⟩ : ∃ X, X = upL (upL (upL (upL (upL (upL R 164 (R 164 ++ [-1])) 166 ((upL R 164 (R 164 ++ [-1])) 166 ++ [-1])) 168 ((upL (upL R 164 (R 164 ++ [-1])) 166 ((upL R 164 (R 164 ++ [-1])) 166 ++ [-1])) 168 ++ [0])) 170 ((upL (upL (upL R 164 (R 164 ++ [-1])) 166 ((upL R 164 (R 164 ++ [-1])) 166 ++ [-1])) 168 ((upL (upL R 164 (R 164 ++ [-1])) 166 ((upL R 164 (R 164 ++ [-1])) 166 ++ [-1])) 168 ++ [0])) 170 ++ [0])) 172 ((upL (upL (upL (upL R 164 (R 164 ++ [-1])) 166 ((upL R 164 (R 164 ++ [-1])) 166 ++ [-1])) 168 ((upL (upL R 164 (R 164 ++ [-1])) 166 ((upL R 164 (R 164 ++ [-1])) 166 ++ [-1])) 168 ++ [0])) 170 ((upL (upL (upL R 164 (R 164 ++ [-1])) 166 ((upL R 164 (R 164 ++ [-1])) 166 ++ [-1])) 168 ((upL (upL R 164 (R 164 ++ [-1])) 166 ((upL R 164 (R 164 ++ [-1])) 166 ++ [-1])) 168 ++ [0])) 170 ++ [0])) 172 ++ [0])) 174 ((upL (upL (upL (upL (upL R 164 (R 164 ++ [-1])) 166 ((upL R 164 (R 164 ++ [-1])) 166 ++ [-1])) 168 ((upL (upL R 164 (R 164 ++ [-1])) 166 ((upL R 164 (R 164 ++ [-1])) 166 ++ [-1])) 168 ++ [0])) 170 ((upL (upL (upL R 164 (R 164 ++ [-1])) 166 ((upL R 164 (R 164 ++ [-1])) 166 ++ [-1])) 168 ((upL (upL R 164 (R 164 ++ [-1])) 166 ((upL R 164 (R 164 ++ [-1])) 166 ++ [-1])) 168 ++ [0])) 170 ++ [0])) 172 ((upL (upL (upL (upL R 164 (R 164 ++ [-1])) 166 ((upL R 164 (R 164 ++ [-1])) 166 ++ [-1])) 168 ((upL (upL R 164 (R 164 ++ [-1])) 166 ((upL R 164 (R 164 ++ [-1])) 166 ++ [-1])) 168 ++ [0])) 170 ((upL (upL (upL R 164 (R 164 ++ [-1])) 166 ((upL R 164 (R 164 ++ [-1])) 166 ++ [-1])) 168 ((upL (upL R 164 (R 164 ++ [-1])) 166 ((upL R 164 (R 164 ++ [-1])) 166 ++ [-1])) 168 ++ [0])) 170 ++ [0])) 172 ++ [0])) 174 ++ [0]) := ⟨_, rfl⟩
  rw [← hR6] at f2
  have g6 : ∀ a, a ≠ 164 → a ≠ 166 → a ≠ 168 → a ≠ 170 → a ≠ 172 → a ≠ 174 → R6 a = R a := fun a w1 w2 w3 w4 w5 w6 => by rw [hR6, upL_n _ _ w6, upL_n _ _ w5, upL_n _ _ w4, upL_n _ _ w3, upL_n _ _ w2, upL_n _ _ w1]
  have h164 : R6 164 = R 164 ++ [-1] := by rw [hR6, upL_n _ _ (by omega), upL_n _ _ (by omega), upL_n _ _ (by omega), upL_n _ _ (by omega), upL_n _ _ (by omega), upL_s]
  have h166 : R6 166 = R 166 ++ [-1] := by rw [hR6, upL_n _ _ (by omega), upL_n _ _ (by omega), upL_n _ _ (by omega), upL_n _ _ (by omega), upL_s, upL_n _ _ (by omega)]
  have h168 : R6 168 = R 168 ++ [0] := by rw [hR6, upL_n _ _ (by omega), upL_n _ _ (by omega), upL_n _ _ (by omega), upL_s, upL_n _ _ (by omega), upL_n _ _ (by omega)]
  have h170 : R6 170 = R 170 ++ [0] := by rw [hR6, upL_n _ _ (by omega), upL_n _ _ (by omega), upL_s, upL_n _ _ (by omega), upL_n _ _ (by omega), upL_n _ _ (by omega)]
  have h172 : R6 172 = R 172 ++ [0] := by rw [hR6, upL_n _ _ (by omega), upL_s, upL_n _ _ (by omega), upL_n _ _ (by omega), upL_n _ _ (by omega), upL_n _ _ (by omega)]
  have h174 : R6 174 = R 174 ++ [0] := by rw [hR6, upL_s, upL_n _ _ (by omega), upL_n _ _ (by omega), upL_n _ _ (by omega), upL_n _ _ (by omega), upL_n _ _ (by omega)]
  clear hR6
  obtain ⟨I7, R7, o1, o2, o3, o4, o5, o6, o7, o8⟩ := opn_ok f2 hnp (by rw [g6 150 (by omega) (by omega) (by omega) (by omega) (by omega) (by omega)]; exact hl.1) ⟨by rw [g6 152 (by omega) (by omega) (by omega) (by omega) (by omega) (by omega)]; exact hl.2.1, by rw [g6 154 (by omega) (by omega) (by omega) (by omega) (by omega) (by omega)]; exact hl.2.2.1, by rw [g6 156 (by omega) (by omega) (by omega) (by omega) (by omega) (by omega)]; exact hl.2.2.2⟩
  obtain ⟨I8, p1, p2, p3⟩ := sts_ok o2 hnp (i := 0) (by omega) (nI np)
  refine ⟨I8, _, ?_, p2, ?_, ?_, ?_, ?_, ?_, ?_, ?_, ?_, ?_, ?_, ?_, fun a w1 w2 w3 w4 w5 w6 w7 w8 w9 w10 w11 => ?_, fun q w => ?_⟩
  · unfold mX6_addProcess
    rw [a1, sb, b1, sb, c1, sb, d1, sb, e1, sb, f1, sb, o1, sb]
    show ((mX6_setSlot I7 (nI (R 164).length) (nI 0) (nI np)).bind _) = _
    rw [hl2.1, p1, sb]
  · rw [upL_n _ _ (by omega), o3, g6 _ (by omega) (by omega) (by omega) (by omega) (by omega) (by omega)]
  · rw [upL_n _ _ (by omega), o4, g6 _ (by omega) (by omega) (by omega) (by omega) (by omega) (by omega)]
  · rw [upL_n _ _ (by omega), o5, g6 _ (by omega) (by omega) (by omega) (by omega) (by omega) (by omega)]
  · rw [upL_n _ _ (by omega), o6, g6 _ (by omega) (by omega) (by omega) (by omega) (by omega) (by omega)]
  · rw [upL_n _ _ (by omega), o7 _ (by omega) (by omega) (by omega) (by omega), h164]
  · rw [upL_n _ _ (by omega), o7 _ (by omega) (by omega) (by omega) (by omega), h166]
  · rw [upL_n _ _ (by omega), o7 _ (by omega) (by omega) (by omega) (by omega), h168]
  · rw [upL_n _ _ (by omega), o7 _ (by omega) (by omega) (by omega) (by omega), h170]
  · rw [upL_n _ _ (by omega), o7 _ (by omega) (by omega) (by omega) (by omega), h172]
  · rw [upL_n _ _ (by omega), o7 _ (by omega) (by omega) (by omega) (by omega), h174]
  · rw [upL_s, o7 _ (by omega) (by omega) (by omega) (by omega), g6 _ (by omega) (by omega) (by omega) (by omega) (by omega) (by omega)]
  · rw [upL_n _ _ w11, o7 a w1 w2 w3 w4, g6 a w5 w6 w7 w8 w9 w10]
  · rw [p3 q (by omega) (by omega), o8 q (by omega), f3 q (by omega) (by omega), e3 q (by omega) (by omega), d3 q (by omega) (by omega), c3 q (by omega) (by omega), b3 q (by omega) (by omega), a3 q (by omega) (by omega)]
