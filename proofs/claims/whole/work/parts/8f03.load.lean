/-! load, in both (pure) -/
section
variable {k h md P b : Nat} {W : List Ent} {D : List Df} {e : Df} {F : fT} {I B B5 : iT} {J : jT} {L : lT}
theorem bk_of (H : BS k h W (D ++ [e]) F I B J L P md b) (he : e.2.1 = []) (hP : P ≤ 1000) (hB : ∀ q i, RBc h q i → q ≤ 205 → q ≠ 186 → B5 q i = B q i) (h31 : B5 186 31 = nI h) : BK k h md (D ++ [e]) L B5 J := by
  obtain ⟨⟨t1, t2, t3, ⟨w1, w2, w3, w4, w5⟩, ⟨t5, t6, t7, t8, t9⟩, t10, ⟨t11, t12, t13⟩⟩, s2, s3, s4, s5, s6, s7, ⟨y1, y2, y3, y4⟩, s9⟩ := H
  have d3 := s5.2.2.1
  have hA : ∀ v, (1400 * h ≤ v ∧ v < 1400 * h + md) → (B5 188 v = B 188 v ∧ B5 189 v = B 189 v ∧ B5 190 v = B 190 v ∧ B5 191 v = B 191 v ∧ J 192 v = J 192 v) := fun v hv => ⟨hB _ _ (by unfold RBc; omega) (by omega) (by omega), hB _ _ (by unfold RBc; omega) (by omega) (by omega), hB _ _ (by unfold RBc; omega) (by omega) (by omega), hB _ _ (by unfold RBc; omega) (by omega) (by omega), rfl⟩
  have hF : FRD k h (D ++ [e]).length md L L B B5 J J := by
    refine ⟨⟨t3, TE.rfl, s3, SE.rfl, ⟨[], (List.append_nil _).symm⟩, Nat.le_refl _, Nat.le_refl _, hA, fun _ _ => ⟨rfl, rfl, rfl, rfl⟩, fun _ _ => ⟨rfl, rfl⟩⟩, fun f hf => ⟨rfl, rfl, rfl, rfl, rfl⟩, fun f hf => rfl, fun f hf => ⟨?_, ?_, ?_, ?_, rfl, fun i hi => ?_⟩⟩
    · exact hB _ _ (by unfold RBc; omega) (by omega) (by omega)
    · exact hB _ _ (by unfold RBc; omega) (by omega) (by omega)
    · exact hB _ _ (by unfold RBc; omega) (by omega) (by omega)
    · exact hB _ _ (by unfold RBc; omega) (by omega) (by omega)
    · exact hB _ _ (by unfold RBc; omega) (by omega) (by omega)
  exact ⟨t1.1, t5, t3, s3, s4, dd_frd s5 hF (Nat.le_refl _) rfl (hB _ _ (by unfold RBc; omega) (by omega) (by omega)), dx_to s6 hF (Nat.le_refl _) (exb_eq rfl rfl), ⟨D, e, rfl, he⟩, ⟨by omega, by omega, by omega, by omega, by omega, by omega⟩, s9, ⟨W.length, by rw [w1, List.length_map], w4, by rw [hB _ _ (by unfold RBc; omega) (by omega) (by omega)]; exact w3⟩, by omega, h31⟩
theorem rk_of (hR : RS I k L) (hS : sumL k L) : RK I k L := ⟨hR.1, fun a ha => hR.2 a (by unfold rkA at ha; unfold rowA; omega), L (k + 27), hR.2 _ (by unfold rowA; omega), hS.2.2.2.1⟩
end
/-- the reference's load ahead of the text -/
theorem rl_eq {B : iT} {J : jT} {h : Nat} (hh : h < 2) (h31 : B 186 31 = nI h) : mX12_load B J = (mX12_look0 (a_u2 (a_u2 (a_u2 (a_u2 (a_u2 (a_u2 (a_u2 B 186 32 (nI (1 - h))) 186 16 (nI (1400 * (1 - h)))) 186 17 0) 204 (1 - h) 0) 205 (1 - h) 0) 186 7 0) 186 2 0) J).bind fun q2 => (mX12_text q2.1 q2.2).bind fun q3 => if q3.1 = 0 then mX12_load_79 q3.2.1 q3.2.2 q3.1 (q3.2.1 186 7) else mX12_load_79 q3.2.1 q3.2.2 q3.1 0 := by
  have e1 : (1 : Int32) - B 186 31 = nI (1 - h) := by rw [h31]; exact pk_sub (a := 1) (by omega)
  have e3 : (1400 : Int32) * nI (1 - h) = nI (1400 * (1 - h)) := pk_mul 1400 _
  unfold mX12_load
  rw [e1, a_u2_s, e3]
  obtain ⟨A, hA⟩ : ∃ A, A = a_u2 (a_u2 (a_u2 B 186 32 (nI (1 - h))) 186 16 (nI (1400 * (1 - h)))) 186 17 0 := ⟨_, rfl⟩
  have hA32 : A 186 32 = nI (1 - h) := by rw [hA, a_u2_n _ _ (by omega), a_u2_n _ _ (by omega), a_u2_s]
  rw [← hA]
  have c1 : (A 186 32).toNatClampNeg = 1 - h := by rw [hA32]; exact nI_clamp (by omega)
  have i1 : inb (A 186 32) 2 := by rw [hA32]; exact vp_in_nI (by omega) (by omega)
  have e4 : ∀ j, (a_u2 A 204 j 0) 186 32 = nI (1 - h) := fun j => by rw [a_u2_n _ _ (by omega)]; exact hA32
  have i2 : inb ((a_u2 A 204 (A 186 32).toNatClampNeg 0) 186 32) 2 := by rw [e4]; exact vp_in_nI (by omega) (by omega)
  rw [if_pos i1, if_pos i2, c1]
  have c2 : ((a_u2 A 204 (1 - h) 0) 186 32).toNatClampNeg = 1 - h := by rw [e4]; exact nI_clamp (by omega)
  rw [c2]
theorem hs_get {b : Nat} {I B : iT} {J : jT} {F : fT} (H : HS b I B J F) : (∃ h, h < 2 ∧ B 186 31 = nI h) ∧ B 186 76 = nI 0 ∧ ∃ R, RN I R ∧ (R 176).length = 6800 := by
  rcases H.2.2.2.2.2.2.2 with ⟨u1, u2, u4, u5⟩ | ⟨u1, h, md, D, L, B0, J0, sp, np, nm, dn, sd, R, HR, _⟩
  · exact ⟨⟨0, by omega, u5⟩, u4, u2⟩
  · exact ⟨⟨h, HR.1.2.1, HR.2.1.2.2.1⟩, HR.2.1.2.2.2.2, R, HR.2.2.2.2.1, HR.2.2.2.2.2.1.1.2.2.2.2.2.2⟩
section
variable {b : Nat} {I B : iT} {J : jT} {F : fT}
theorem ld_ok (H : HS b I B J F) (hb : 85 ≤ b ∧ b + 2 ≤ 9000) : ∃ r I' B' J' F', mX11_load I F = some (r, I', F') ∧ mX12_load B J = some (r, B', J') ∧ HS (b + 2) I' B' J' F' := by
  obtain ⟨⟨h, hh, h31⟩, h76, R, hN, h176⟩ := hs_get H
  obtain ⟨⟨bs, hT, hby⟩, hFa, ⟨o, hO⟩, hW, hSC, hRS2, hFF, hrun⟩ := H
  obtain ⟨k, hk⟩ : ∃ k, k = F 1 6 := ⟨_, rfl⟩
  obtain ⟨k0, hk0⟩ : ∃ k0, k0 = F 1 5 := ⟨_, rfl⟩
  obtain ⟨g, hg⟩ : ∃ g, g = 1 - h := ⟨_, rfl⟩
  have hkk : (k0 = 12 ∧ k = 73) ∨ (k0 = 73 ∧ k = 12) := by rw [hk, hk0]; exact hFF
  have hbl : bs.length ≤ 1000 := by have := hT.2.1; rw [mpI_len] at this; exact this
  obtain ⟨L0, hR0⟩ : ∃ L, RS I k L := by
    rcases hkk with ⟨_, w⟩ | ⟨_, w⟩ <;> rw [w]
    · exact hRS2.2
    · exact hRS2.1
  obtain ⟨Lo, hRo⟩ : ∃ L, RS I k0 L := by
    rcases hkk with ⟨w, _⟩ | ⟨w, _⟩ <;> rw [w]
    · exact hRS2.1
    · exact hRS2.2
  -- the class begins
  obtain ⟨I1, t, r, hlex, s1, s2, s3, s4⟩ := cstart hby hbl hT.1 hW
  have f1 : ∀ q, q ≠ 6 → q ≠ 9 → q ≠ 10 → q ≠ 11 → I1 q = I q := fun q w1 w2 w3 w4 => funext fun i => s4 q i w1 w2 w3 w4
  obtain ⟨I2, c1, c2⟩ := row_clear (I := I1) (a := 2)
  have f2 : ∀ q, q ≠ 2 → q ≠ 3 → q ≠ 6 → q ≠ 9 → q ≠ 10 → q ≠ 11 → I2 q = I q := fun q w0 w0' w1 w2 w3 w4 => by rw [c2.2 q w0 (by omega), f1 q w1 w2 w3 w4]
  have hR2 : RS I2 k L0 := rs_keep hR0 (fun a ha => by
    unfold rowA at ha
    exact ⟨f2 _ (by omega) (by omega) (by omega) (by omega) (by omega) (by omega), f2 _ (by omega) (by omega) (by omega) (by omega) (by omega) (by omega)⟩)
  obtain ⟨I3, L3, u1, u2, u3, u4, u5, u6⟩ := use_ok (F := F) hR2
  have f3 : ∀ q, q ≠ 2 → q ≠ 3 → q ≠ 6 → q ≠ 9 → q ≠ 10 → q ≠ 11 → ¬ (k ≤ q ∧ q ≤ k + 60) → ¬ (143 ≤ q ∧ q ≤ 146) → q ≠ 134 → I3 q = I q := fun q w1 w2 w3 w4 w5 w6 w7 w8 w9 => by rw [u4 q w7 w8 w9, f2 q w1 w2 w3 w4 w5 w6]
  obtain ⟨F3, hF3⟩ : ∃ X, X = a_u2 (a_u2 (a_u2 F 134 4 k) 142 3 k) 147 2 (k + 18) := ⟨_, rfl⟩
  rw [← hF3] at u1
  have fF : ∀ q i, ¬ (q = 134 ∧ i = 4) → ¬ (q = 142 ∧ i = 3) → ¬ (q = 147 ∧ i = 2) → F3 q i = F q i := fun q i w1 w2 w3 => by rw [hF3, a_u2_n _ _ w3, a_u2_n _ _ w2, a_u2_n _ _ w1]
  have hF3' : F3 134 4 = k ∧ F3 142 3 = k ∧ F3 147 2 = k + 18 := ⟨by rw [hF3, a_u2_n _ _ (by omega), a_u2_n _ _ (by omega), a_u2_s], by rw [hF3, a_u2_n _ _ (by omega), a_u2_s], by rw [hF3, a_u2_s]⟩
  have hCC : CC I3 t r := CC_keep s2 (fun i _ _ => by rw [u4 6 (by omega) (by omega) (by omega), c2.2 6 (by omega) (by omega)]) (by rw [u4 9 (by omega) (by omega) (by omega), c2.2 9 (by omega) (by omega)]) (by rw [u4 10 (by omega) (by omega) (by omega), c2.2 10 (by omega) (by omega)]) (by rw [u4 11 (by omega) (by omega) (by omega), c2.2 11 (by omega) (by omega)])
  have h610 : I3 6 10 = -1 := by rw [u4 6 (by omega) (by omega) (by omega), c2.2 6 (by omega) (by omega)]; exact s3
  -- the reference begins
  obtain ⟨B2, hB2⟩ : ∃ X, X = a_u2 (a_u2 (a_u2 (a_u2 (a_u2 (a_u2 (a_u2 B 186 32 (nI (1 - h))) 186 16 (nI (1400 * (1 - h)))) 186 17 0) 204 (1 - h) 0) 205 (1 - h) 0) 186 7 0) 186 2 0 := ⟨_, rfl⟩
  have hrl := rl_eq (J := J) hh h31
  rw [← hB2] at hrl
  rw [← hg] at hB2
  have fB2 : ∀ q i, ¬ (q = 186 ∧ (i = 32 ∨ i = 16 ∨ i = 17 ∨ i = 7 ∨ i = 2)) → ¬ ((q = 204 ∨ q = 205) ∧ i = g) → B2 q i = B q i := fun q i w1 w2 => by
    rw [hB2, a_u2_n _ _ (by omega), a_u2_n _ _ (by omega), a_u2_n _ _ (by omega), a_u2_n _ _ (by omega), a_u2_n _ _ (by omega), a_u2_n _ _ (by omega), a_u2_n _ _ (by omega)]
  have b2 : B2 186 2 = 0 := by rw [hB2, a_u2_s]
  have b7 : B2 186 7 = 0 := by rw [hB2, a_u2_n _ _ (by omega), a_u2_s]
  have b205 : B2 205 g = 0 := by rw [hB2, a_u2_n _ _ (by omega), a_u2_n _ _ (by omega), a_u2_s]
  have b204 : B2 204 g = 0 := by rw [hB2, a_u2_n _ _ (by omega), a_u2_n _ _ (by omega), a_u2_n _ _ (by omega), a_u2_s]
  have b17 : B2 186 17 = 0 := by rw [hB2, a_u2_n _ _ (by omega), a_u2_n _ _ (by omega), a_u2_n _ _ (by omega), a_u2_n _ _ (by omega), a_u2_s]
  have b16 : B2 186 16 = nI (1400 * g) := by rw [hB2, a_u2_n _ _ (by omega), a_u2_n _ _ (by omega), a_u2_n _ _ (by omega), a_u2_n _ _ (by omega), a_u2_n _ _ (by omega), a_u2_s]
  have b32 : B2 186 32 = nI g := by rw [hB2, a_u2_n _ _ (by omega), a_u2_n _ _ (by omega), a_u2_n _ _ (by omega), a_u2_n _ _ (by omega), a_u2_n _ _ (by omega), a_u2_n _ _ (by omega), a_u2_s]
  have htap : tapB B2 bs := by
    refine ⟨?_, fun i hi => ?_⟩
    · rw [fB2 _ _ (by omega) (by omega), hT.2.2.1, mpI_len]
    · rw [fB2 _ _ (by omega) (by omega), hT.2.2.2 i (by rw [mpI_len]; exact hi)]
  obtain ⟨t', r', B3, J3, hlex', v1, v2, v3, v4⟩ := rstart (J := J) hby hbl htap b2
  have ett : t' :: r' = t :: r := hlex'.symm.trans hlex
  injection ett with et er
  subst et er
  have htk : tkl t' r' := (lexG_wf hbl 1001 bs 0 (by omega) (by omega) t' r' hlex').1
  have hCR : CR I3 B3 J3 bs t' r' := ⟨hCC, v2, htk, by rw [v3 _ _ (by omega)]; exact b7, h610, hby, hbl⟩
  have hSC3 : SCP b I3 := hSC.keep (fun c w1 w2 => f3 c (by omega) (by omega) (by omega) (by omega) (by omega) (by omega) (by omega) (by omega) (by omega))
  have hld := ld_read hF3' (show g < 2 by omega) hCR u2 u3 hSC3 hb (by rw [v3 _ _ (by omega)]; exact b32) (by rw [v3 _ _ (by omega)]; exact b16) (by rw [v3 _ _ (by omega)]; exact b17) (by rw [v3 _ _ (by omega)]; exact b204) (by rw [v3 _ _ (by omega)]; exact b205)
  have hcl : mX11_load I F = (mX3_readTypes I3 F3).bind fun q13 => mX11_load_38 LF q13 F3 0 := by
    unfold mX11_load
    rw [s1, sb, c1, sb, ← hk, u1, sb]
  have hrf : mX12_load B J = (mX12_text B3 J3).bind fun q3 => if q3.1 = 0 then mX12_load_79 q3.2.1 q3.2.2 q3.1 (q3.2.1 186 7) else mX12_load_79 q3.2.1 q3.2.2 q3.1 0 := by
    rw [hrl, v1, sb]
  rw [hcl, hrf]
  -- what both leave of the other cells
  have fIx : ∀ {I' : iT}, FQ k I3 I' → ∀ q, q ≠ 2 → q ≠ 3 → q ≠ 6 → q ≠ 9 → q ≠ 10 → q ≠ 11 → ¬ (k ≤ q ∧ q ≤ k + 60) → ¬ (134 ≤ q ∧ q ≤ 146) → I' q = I q := fun hq q w1 w2 w3 w4 w5 w6 w7 w8 => by rw [hq q w3 w8 w7, f3 q w1 w2 w3 w4 w5 w6 w7 (by omega) (by omega)]
  have row2 : ∀ {I' : iT}, FQ k I3 I' → rowIs I' 2 [] := fun hq => c2.1.keep (by rw [hq 2 (by omega) (by omega) (by omega), u4 2 (by omega) (by omega) (by omega)]) (by rw [hq 3 (by omega) (by omega) (by omega), u4 3 (by omega) (by omega) (by omega)])
  have fBx : ∀ {B' : iT} {J' : jT}, RX g B3 J3 B' J' → ∀ q i, ¬ touR g q i → ¬ (q = 186 ∧ (i = 32 ∨ i = 16 ∨ i = 17 ∨ i = 7 ∨ i = 2)) → B' q i = B q i := fun hx q i w1 w2 => by
    rw [(hx q i w1).1, v3 q i (by unfold touR at w1; omega), fB2 q i w2 (by unfold touR at w1; omega)]
  have fJx : ∀ {B' : iT} {J' : jT}, RX g B3 J3 B' J' → ∀ q i, ¬ touR g q i → J' q i = J q i := fun hx q i w1 => by
    rw [(hx q i w1).2, v4 q i (by unfold touR at w1; omega)]
  have rsO : ∀ {I' : iT} {L' : lT}, FQ k I3 I' → RS I' k L' → ∃ L, RS I' k0 L := fun {I' L'} hq hR' => by
    refine ⟨upL (upL Lo 143 (L' 143)) 145 (L' 145), hRo.1, fun a ha => ?_⟩
    by_cases q1 : a = 145
    · rw [q1, upL_s]; exact hR'.2 145 (by unfold rowA; omega)
    · by_cases q2 : a = 143
      · rw [upL_n _ _ q1, q2, upL_s]; exact hR'.2 143 (by unfold rowA; omega)
      · rw [upL_n _ _ q1, upL_n _ _ q2]
        have ha0 := ha
        unfold rowA at ha
        exact (hRo.2 a ha0).keep (fIx hq _ (by omega) (by omega) (by omega) (by omega) (by omega) (by omega) (by omega) (by omega)) (fIx hq _ (by omega) (by omega) (by omega) (by omega) (by omega) (by omega) (by omega) (by omega))
  have two : ∀ {I' : iT}, (∃ L, RS I' k L) → (∃ L, RS I' k0 L) → (∃ L, RS I' 12 L) ∧ ∃ L, RS I' 73 L := fun {I'} w1 w2 => by
    rcases hkk with ⟨x, y⟩ | ⟨x, y⟩
    · rw [x] at w2; rw [y] at w1; exact ⟨w2, w1⟩
    · rw [x] at w2; rw [y] at w1; exact ⟨w1, w2⟩
  rcases hld with ⟨I', B', J', e1, e2, f, p, ⟨⟨⟨Ln, hRn⟩, m1, m2, m3, m4⟩, m5, m6⟩, hq, n1, n2, hx⟩ | ⟨I', B', J', e1, e2, W, D, e, L', t2, r2, md', hC', hBS, he, hq, hx⟩
  · -- both refuse
    have eR : (mX12_text B3 J3).bind (fun q3 => if q3.1 = 0 then mX12_load_79 q3.2.1 q3.2.2 q3.1 (q3.2.1 186 7) else mX12_load_79 q3.2.1 q3.2.2 q3.1 0) = some (-1, a_u2 (a_u2 (a_u2 B' 186 9 f) 186 10 p) 186 1 0, J') := by
      rw [e2, sb, if_pos rfl]
      unfold mX12_load_79 mX12_load_95
      rw [if_pos rfl, if_pos rfl]
      show some ((-1 : Int32), a_u2 (a_u2 (a_u2 B' 186 9 (B' 186 7)) 186 10 ((a_u2 B' 186 9 (B' 186 7)) 186 8)) 186 1 0, J') = _
      rw [n1, a_u2_n _ _ (by omega), n2]
    obtain ⟨B9, hB9⟩ : ∃ X, X = a_u2 (a_u2 (a_u2 B' 186 9 f) 186 10 p) 186 1 0 := ⟨_, rfl⟩
    rw [← hB9] at eR
    have f9 : ∀ q i, ¬ (q = 186 ∧ (i = 9 ∨ i = 10 ∨ i = 1)) → B9 q i = B' q i := fun q i w => by rw [hB9, a_u2_n _ _ (by omega), a_u2_n _ _ (by omega), a_u2_n _ _ (by omega)]
    have fB9 : ∀ q i, ¬ touR g q i → ¬ (q = 186 ∧ (i = 32 ∨ i = 16 ∨ i = 17 ∨ i = 7 ∨ i = 2 ∨ i = 9 ∨ i = 10 ∨ i = 1)) → B9 q i = B q i := fun q i w1 w2 => by rw [f9 q i (by omega), fBx hx q i w1 (by omega)]
    refine ⟨-1, I', B9, J', F3, e1, eR, ⟨[], ⟨row2 hq, Nat.zero_le _, by rw [hB9, a_u2_s]; rfl, fun i hi => by cases hi⟩, fun c hc => by cases hc⟩, ⟨by rw [m1, hB9, a_u2_n _ _ (by omega), a_u2_n _ _ (by omega), a_u2_s], by rw [m2, hB9, a_u2_n _ _ (by omega), a_u2_s]⟩, ⟨o, hO.1.keep (fIx hq _ (by omega) (by omega) (by omega) (by omega) (by omega) (by omega) (by omega) (by omega)) (fIx hq _ (by omega) (by omega) (by omega) (by omega) (by omega) (by omega) (by omega) (by omega)), hO.2.1, by rw [fB9 _ _ (by unfold touR; omega) (by omega)]; exact hO.2.2.1, fun i hi => by rw [fB9 _ _ (by unfold touR; omega) (by omega)]; exact hO.2.2.2 i hi⟩, hW.keep (fIx hq _ (by omega) (by omega) (by omega) (by omega) (by omega) (by omega) (by omega) (by omega)) (fIx hq _ (by omega) (by omega) (by omega) (by omega) (by omega) (by omega) (by omega) (by omega)), m5, two ⟨Ln, hRn⟩ (rsO hq hRn), by rw [fF 1 5 (by omega) (by omega) (by omega), fF 1 6 (by omega) (by omega) (by omega)]; exact hFF, ?_⟩
    rcases hrun with ⟨z1, z2, z3, z4⟩ | ⟨z1, h', md, D, L, B0, J0, z2⟩
    · exact Or.inl ⟨unl_keep z1 (fun q w => fIx hq _ (by omega) (by omega) (by omega) (by omega) (by omega) (by omega) (by omega) (by omega)) (fB9 _ _ (by unfold touR; omega) (by omega)), ⟨R, rn_keep hN (fun a w1 w2 => fIx hq _ (by omega) (by omega) (by omega) (by omega) (by omega) (by omega) (by omega) (by omega)), h176⟩, by rw [fB9 _ _ (by unfold touR; omega) (by omega)]; exact z3, by rw [fB9 _ _ (by unfold touR; omega) (by omega)]; exact z4⟩
    · have hz := z2
      obtain ⟨sp, np, nm, dn, sd, R', HR, _⟩ := hz
      have hh' : h' = h := by
        have := HR.2.1.2.2.1
        rw [h31] at this
        exact ((nI_eq (by omega) (by have := HR.1.2.1; omega)).mp this).symm
      subst hh'
      refine Or.inr ⟨by rw [fIx hq 1 (by omega) (by omega) (by omega) (by omega) (by omega) (by omega) (by omega) (by omega)]; exact z1, h', md, D, L, B9, J', ?_⟩
      rw [fF 1 5 (by omega) (by omega) (by omega)]
      refine runr_move z2 (fun q w => fIx hq q ?_ ?_ ?_ ?_ ?_ ?_ ?_ ?_) (by rw [fF 148 12 (by omega) (by omega) (by omega)]; exact HR.2.2.1) (fun q i w => fB9 q i ?_ ?_) (fun q i w => fJx hx q i ?_)
      all_goals first | (rw [← hk0] at w; omega) | (unfold RBc at w; unfold touR; omega) | (unfold RBc at w; omega) | (unfold RJc at w; unfold touR; omega)
  · -- a text
    have hPt := cr_end hC'
    have g32 : B' 186 32 = nI g := hBS.1.2.2.2.2.1.2.1
    obtain ⟨B5, hB5⟩ : ∃ X, X = a_u2 (a_u2 (a_u2 (a_u2 (a_u2 B' 186 9 0) 186 10 (-1)) 186 1 0) 186 31 (nI g)) 186 33 1 := ⟨_, rfl⟩
    have f5 : ∀ q i, ¬ (q = 186 ∧ (i = 9 ∨ i = 10 ∨ i = 1 ∨ i = 31 ∨ i = 33)) → B5 q i = B' q i := fun q i w => by rw [hB5, a_u2_n _ _ (by omega), a_u2_n _ _ (by omega), a_u2_n _ _ (by omega), a_u2_n _ _ (by omega), a_u2_n _ _ (by omega)]
    have q33 : B5 186 33 = 1 := by rw [hB5, a_u2_s]
    have q31 : B5 186 31 = nI g := by rw [hB5, a_u2_n _ _ (by omega), a_u2_s]
    have q1' : B5 186 1 = 0 := by rw [hB5, a_u2_n _ _ (by omega), a_u2_n _ _ (by omega), a_u2_s]
    have q10 : B5 186 10 = -1 := by rw [hB5, a_u2_n _ _ (by omega), a_u2_n _ _ (by omega), a_u2_n _ _ (by omega), a_u2_s]
    have q9 : B5 186 9 = 0 := by rw [hB5, a_u2_n _ _ (by omega), a_u2_n _ _ (by omega), a_u2_n _ _ (by omega), a_u2_n _ _ (by omega), a_u2_s]
    have eR : (mX12_text B3 J3).bind (fun q3 => if q3.1 = 0 then mX12_load_79 q3.2.1 q3.2.2 q3.1 (q3.2.1 186 7) else mX12_load_79 q3.2.1 q3.2.2 q3.1 0) = (mX12_begins B5 J').bind fun q1 => if inb (q1 186 31) 2 then some (q1 205 (q1 186 31).toNatClampNeg, q1, J') else none := by
      rw [e2, sb, if_neg i10]
      unfold mX12_load_79 mX12_load_95
      rw [if_neg i10, if_neg i10]
      show ((mX12_begins (a_u2 (a_u2 (a_u2 (a_u2 (a_u2 B' 186 9 0) 186 10 (-1)) 186 1 0) 186 31 ((a_u2 (a_u2 (a_u2 B' 186 9 0) 186 10 (-1)) 186 1 0) 186 32)) 186 33 1) J').bind _) = _
      rw [a_u2_n (a_u2 (a_u2 B' 186 9 0) 186 10 (-1)) (a := 186) (j := 1) 0 (x := 186) (i := 32) (by omega), a_u2_n (a_u2 B' 186 9 0) (a := 186) (j := 10) (-1) (x := 186) (i := 32) (by omega), a_u2_n B' (a := 186) (j := 9) 0 (x := 186) (i := 32) (by omega), g32, ← hB5]
    have hBK : BK k g md' (D ++ [e]) L' B5 J' := bk_of hBS he hPt (fun q i w1 w2 w3 => f5 q i (by omega)) q31
    obtain ⟨I5, hI5⟩ : ∃ X, X = a_u2 I' 1 7 1 := ⟨_, rfl⟩
    have f5I : ∀ q, q ≠ 1 → I5 q = I' q := fun q w => by rw [hI5, a_u2_r _ _ w]
    have hR5 : RS I5 k L' := rs_keep hBS.1.1 (fun a ha => by
      unfold rowA at ha
      exact ⟨f5I _ (by omega), f5I _ (by omega)⟩)
    have hK5 := rk_of hR5 hBS.2.2.1
    have hN5 : RN I5 R := rn_keep hN (fun a w1 w2 => by rw [f5I a (by omega), fIx hq a (by omega) (by omega) (by omega) (by omega) (by omega) (by omega) (by omega) (by omega)])
    obtain ⟨F4, hF4⟩ : ∃ X, X = a_u2 (a_u2 F3 1 5 (F3 1 6)) 1 6 (F3 1 5) := ⟨_, rfl⟩
    have F45 : F4 1 5 = k := by rw [hF4, a_u2_n _ _ (by omega), a_u2_s, fF 1 6 (by omega) (by omega) (by omega), hk]
    have F46 : F4 1 6 = k0 := by rw [hF4, a_u2_s, fF 1 5 (by omega) (by omega) (by omega), hk0]
    obtain ⟨I6, B6, y1, y2, y3, y4, y5⟩ := strt_ok (F := F4) hBK hK5 hN5 h176 q31 q33 (by rw [f5 _ _ (by omega), fBx hx _ _ (by unfold touR; omega) (by omega)]; exact h76)
    obtain ⟨F5, hF5⟩ : ∃ X, X = a_u2 F4 148 12 k := ⟨_, rfl⟩
    rw [← hF5] at y1 y3
    have F55 : F5 1 5 = k := by rw [hF5, a_u2_n _ _ (by omega)]; exact F45
    have F56 : F5 1 6 = k0 := by rw [hF5, a_u2_n _ _ (by omega)]; exact F46
    have h33l : (L' (k + 33)).length = (D ++ [e]).length := by rw [hBS.2.2.2.2.1.1, List.length_map]
    have h205 : B' 205 g = nI (D ++ [e]).length := hBS.2.2.2.2.1.2.1
    have eC : ((mX11_takeSpare I' F3).bind fun q3 => (mX4_size ((q3.2 1 5) + 33) q3.1).bind fun q5 => some (q5, q3.1, q3.2)) = some (nI (D ++ [e]).length, I6, F5) := by
      unfold mX11_takeSpare
      rw [← hF4, ← hI5, F45, y1, sb, sb]
      show ((mX4_size (F5 1 5 + 33) I6).bind _) = _
      rw [F55, row_size ((hR5.2 (k + 33) (by unfold rowA; omega)).keep (y4 _ (by omega) (by omega) (by omega)) (y4 _ (by omega) (by omega) (by omega))), sb, h33l]
    have z31 : B6 186 31 = nI g := by rw [y5 _ _ (by omega) (by omega) (by omega) (by omega)]; exact q31
    have eR2 : ((mX12_begins B5 J').bind fun q1 => if inb (q1 186 31) 2 then some (q1 205 (q1 186 31).toNatClampNeg, q1, J') else none) = some (nI (D ++ [e]).length, B6, J') := by
      have i2 : inb (B6 186 31) 2 := by rw [z31]; exact vp_in_nI (by omega) (by omega)
      have c2 : (B6 186 31).toNatClampNeg = g := by rw [z31]; exact nI_clamp (by omega)
      rw [y2, sb, if_pos i2, c2, y5 _ _ (by omega) (by omega) (by omega) (by omega), f5 _ _ (by omega), h205]
    have fI6 : ∀ q, q ≠ 1 → q < 148 → q ≠ k + 27 → q ≠ k + 28 → I6 q = I' q := fun q w1 w2 w3 w4 => by rw [y4 q w2 w3 w4, f5I q w1]
    have fB6 : ∀ q i, ¬ (q = 186 ∧ 60 ≤ i ∧ i ≤ 65) → ¬ (q = 186 ∧ i = 76) → q ≠ 229 → ¬ (212 ≤ q ∧ q ≤ 222) → ¬ touR g q i → ¬ (q = 186 ∧ (i = 32 ∨ i = 16 ∨ i = 17 ∨ i = 7 ∨ i = 2)) → ¬ (q = 186 ∧ (i = 9 ∨ i = 10 ∨ i = 1 ∨ i = 31 ∨ i = 33)) → B6 q i = B q i := fun q i w1 w2 w3 w4 w5 w6 w7 => by rw [y5 q i w1 w2 w3 w4, f5 q i w7, fBx hx q i w5 w6]
    have hRn : ∃ L, RS I6 k L := by
      have hz := y3
      obtain ⟨sp, np, nm, dn, sd, R', HR, _⟩ := hz
      obtain ⟨_, _, V, w1, _⟩ := HR.2.2.2.1
      refine ⟨upL L' (k + 27) V, hR5.1, fun a ha => ?_⟩
      by_cases q1 : a = k + 27
      · rw [q1, upL_s]; exact w1
      · rw [upL_n _ _ q1]
        have ha0 := ha
        unfold rowA at ha
        exact (hR5.2 a ha0).keep (y4 _ (by omega) q1 (by omega)) (y4 _ (by omega) (by omega) (by omega))
    have hRo6 : ∃ L, RS I6 k0 L := by
      obtain ⟨Lx, hLx⟩ := rsO hq hBS.1.1
      refine ⟨Lx, rs_keep hLx (fun a ha => ?_)⟩
      unfold rowA at ha
      exact ⟨fI6 _ (by omega) (by omega) (by omega) (by omega), fI6 _ (by omega) (by omega) (by omega) (by omega)⟩
    have k6 : ∀ {a : Nat} {l : List Int32}, (a = 2 ∨ a = 4 ∨ a = 7) → rowIs I' a l → rowIs I6 a l := fun {a l} w1 w => w.keep (fI6 _ (by omega) (by omega) (by omega) (by omega)) (fI6 _ (by omega) (by omega) (by omega) (by omega))
    have kI : ∀ {a : Nat} {l : List Int32}, (a = 4 ∨ a = 7) → rowIs I a l → rowIs I' a l := fun {a l} w1 w => w.keep (fIx hq _ (by omega) (by omega) (by omega) (by omega) (by omega) (by omega) (by omega) (by omega)) (fIx hq _ (by omega) (by omega) (by omega) (by omega) (by omega) (by omega) (by omega) (by omega))
    refine ⟨nI (D ++ [e]).length, I6, B6, J', F5, e1.trans eC, eR.trans eR2, ⟨[], ⟨k6 (Or.inl rfl) (row2 hq), Nat.zero_le _, by rw [y5 _ _ (by omega) (by omega) (by omega) (by omega), q1']; rfl, fun i hi => by cases hi⟩, fun c hc => by cases hc⟩, ⟨?_, ?_⟩, ⟨o, k6 (by omega) (kI (by omega) hO.1), hO.2.1, ?_, fun i hi => ?_⟩, k6 (by omega) (kI (by omega) hW), ?_, two hRn hRo6, ?_, Or.inr ⟨?_, g, md', D ++ [e], L', B5, J', ?_⟩⟩
    · rw [fI6 6 (by omega) (by omega) (by omega) (by omega), hC'.1.1, y5 _ _ (by omega) (by omega) (by omega) (by omega), q9]
    · rw [fI6 6 (by omega) (by omega) (by omega) (by omega), hC'.2.2.2.2.1, y5 _ _ (by omega) (by omega) (by omega) (by omega), q10]
    · rw [fB6 _ _ (by omega) (by omega) (by omega) (by omega) (by unfold touR; omega) (by omega) (by omega)]
      exact hO.2.2.1
    · rw [fB6 _ _ (by omega) (by omega) (by omega) (by omega) (by unfold touR; omega) (by omega) (by omega)]
      exact hO.2.2.2 i hi
    · exact (hBS.2.2.2.2.2.2.1.1.mono (Nat.le_add_right b 2)).keep (fun c w1 w2 => fI6 c (by omega) (by omega) (by omega) (by omega))
    · rw [F55, F56]
      omega
    · rw [y4 1 (by omega) (by omega) (by omega), hI5, a_u2_s]
    · rw [F55]
      exact y3
end
