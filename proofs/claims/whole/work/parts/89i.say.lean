/-! say (pure) -/
theorem exb_snoc0 {k : Nat} {L L' : lT} {x v : Int32} (h : (L (k + 53)).length = (L (k + 47)).length) (h1 : L' (k + 47) = L (k + 47) ++ [x]) (h2 : L' (k + 53) = L (k + 53) ++ [v]) (he : EB v) : EXB k L L' := by
  intro H j hj
  rw [h1, List.length_append, List.length_singleton] at hj
  rw [h2]
  rcases Nat.lt_or_ge j (L (k + 47)).length with q | q
  · rw [gI_l _ (by omega)]
    exact H j q
  · have : j = (L (k + 53)).length := by omega
    subst this
    rw [gI_e]
    exact he
section
variable {k h M n : Nat} {D : List Df} {F : fT} {I B : iT} {J : jT} {L : lT} {bs : List Nat} {t : Tok} {r : List Tok} {md nest wd b : Nat} {S : List Sl} {a6 a8 a0 : List Int32}
theorem st_say (R : sc_12actT) (hC : CR I B J bs t r) (H : PS k h M n D F I B J L t.2.2 md nest S a6 a8 a0 wd b 0) (q : t.1 = 314) : ∃ I' v B' J', mX3_readSay I F (nI nest) = some I' ∧ bX12_act R B J 114 = some (v, B', J') ∧ ((v = 0 ∧ PL k h b I B J I' B' J') ∨ (v = 1 ∧ SG k h M n D F I B J L bs t.2.2 md nest S a6 a8 a0 wd b I' B' J')) := by
  have hk := H.1.1.1
  have hF := H.2.1.1
  have htl : tl t.1 = 3 := by rw [q]; decide
  obtain ⟨u0, r0, y1, y2, y3⟩ := tkl_more hC.2.2.1 (by omega)
  have hend := tkl_end r0 u0 y2
  rw [htl] at y3
  obtain ⟨I1, e1, H1, f1⟩ := ps_node H (by omega) 314
  have hC1 : CR I1 B J bs t r := CR_I hC (f1 6 (by omega)) (f1 9 (by omega)) (f1 10 (by omega)) (f1 11 (by omega))
  obtain ⟨u, r', I2, B2, J2, k1, k2, k3, k4, k5, k6, k7⟩ := jadv hC1 (by omega)
  rw [htl] at k5
  have H2 := ps_cur H1 k6 k7 (P' := u.2.2) (by omega)
  obtain ⟨x, I3, v, B3, J3, e3, e4, HO⟩ := ps_expr k4 H2
  have eR : bX12_act R B J 114 = (mX12_expression SF B2 J2).bind fun q34 => if q34.1 = 0 then some (0, q34.2.1, q34.2.2) else (mX12_node q34.2.1 q34.2.2 51 (q34.2.1 186 47) (-1) 0).bind fun q35 => some (1, a_u2 q35.2.1 186 49 q35.1, q35.2.2) := by
    unfold bX12_act
    rw [if_neg (by decide), if_neg (by decide), k3, sb]
    rfl
  have eC : mX3_readSay I F (nI nest) = (mX4_put (k + 51) I3 (nI (L (k + 47)).length) x).bind fun q4 => some q4 := by
    unfold mX3_readSay
    rw [hF, e1, sb, k2, sb, e3, sb]
  rw [eC, eR, e4, sb]
  have fr1' : cQ k I I2 := (show cQ k I I1 from fun c q1 q2 q3 => f1 c (by omega)).trans (cf_cQ k6)
  rcases HO with ⟨hv, hp⟩ | ⟨hv, root, L3, t3, r3, md3, e, d, hx, g1, g2, g3, g4, g5, g6, g7, g8, g9, g10, g11, g12⟩
  · subst hv
    obtain ⟨I', a1, a2⟩ := pfu_PL (PL.pre (cQ_FQ fr1') (rf_RX k7) hp) (o := (mX4_put (k + 51) I3 (nI (L (k + 47)).length) x).bind fun q4 => some q4) (fun f p hf => pfu_u (fmu_pfu hf (fm_put hf.1 (by unfold rowB; omega) _ _)) (fun I4 h4 => pfu_ret h4))
    exact ⟨I', 0, B3, J3, a1, by rw [if_pos rfl], Or.inl ⟨rfl, a2⟩⟩
  · subst hv
    subst hx
    have hP3 := cr_end g1
    have bb := H.1.2.2.2.2.2.2.2
    have bn := H.2.2.2.2.2.1
    have L347 : L3 (k + 47) = L (k + 47) ++ [314] := by rw [g6 _ (by omega), ad4_47]
    have L351 : L3 (k + 51) = L (k + 51) ++ [-1] := by rw [g6 _ (by omega), ad4_51]
    obtain ⟨n1, n2, n3, n4⟩ := H.2.2.1
    obtain ⟨I4, p1, p2, p3⟩ := ps_put g2 (a := k + 51) (by omega) (j := (L (k + 47)).length) (by omega) (nI root)
    obtain ⟨B5, J5, m1, m2, m3, m4, m5, m6, m7, m8, m9, m10⟩ := ps_rnode p2 (by omega) (by omega) 51 (nI e) (-1) 0
    have H6 := ps_49 m2 49 (by omega) (nI (1400 * h + md3))
    have hC6 : CR I4 (a_u2 B5 186 49 (nI (1400 * h + md3))) J5 bs t3 r3 := CR_B (CR_I g1 (p3 6 (by omega)) (p3 9 (by omega)) (p3 10 (by omega)) (p3 11 (by omega))) (fun i _ _ => by rw [a_u2_n _ _ (by omega), m9 _ _ (by omega) (by omega)]) (funext fun i => by rw [a_u2_n _ _ (by omega), m9 _ _ (by omega) (by omega)]) (m10 _ _ (by omega))
    have uL : ∀ c, c ≠ k + 51 → upL L3 (k + 51) ((L3 (k + 51)).set (L (k + 47)).length (nI root)) c = L3 c := fun c w => upL_n _ _ w
    have uL5 : upL L3 (k + 51) ((L3 (k + 51)).set (L (k + 47)).length (nI root)) (k + 51) = (L (k + 51) ++ [-1]).set (L (k + 47)).length (nI root) := by rw [upL_s, L351]
    have len47 : (upL L3 (k + 51) ((L3 (k + 51)).set (L (k + 47)).length (nI root)) (k + 47)).length = (L (k + 47)).length + 1 := by rw [uL _ (by omega), L347]; simp
    obtain ⟨c1, c2, c3, c4, c5, c6, c7⟩ := H6
    have cL : ∀ a, ¬ (k + 19 ≤ a ∧ a ≤ k + 59) → upL L3 (k + 51) ((L3 (k + 51)).set (L (k + 47)).length (nI root)) a = L a := fun a w => by rw [uL a (by omega), g6 a (by omega), ad4_n _ (by omega)]
    have hh := H.1.2.2.2.2.1.1
    have e49 : upL L3 (k + 51) ((L3 (k + 51)).set (L (k + 47)).length (nI root)) (k + 49) = L (k + 49) ++ [-1] := by rw [uL _ (by omega), g6 _ (by omega), ad4_49]
    have e53 : upL L3 (k + 51) ((L3 (k + 51)).set (L (k + 47)).length (nI root)) (k + 53) = L (k + 53) ++ [-1] := by rw [uL _ (by omega), g6 _ (by omega), ad4_53]
    have e47 : upL L3 (k + 51) ((L3 (k + 51)).set (L (k + 47)).length (nI root)) (k + 47) = L (k + 47) ++ [314] := by rw [uL _ (by omega), L347]
    have same : ∀ a, (k + 29 ≤ a ∧ a ≤ k + 46) ∨ (k + 54 ≤ a ∧ a ≤ k + 59) → upL L3 (k + 51) ((L3 (k + 51)).set (L (k + 47)).length (nI root)) a = L a := fun a w => by rw [uL a (by omega), g6 a (by omega), ad4_n _ (by omega)]
    have e19 : (upL L3 (k + 51) ((L3 (k + 51)).set (L (k + 47)).length (nI root)) (k + 19)).length = (L3 (k + 19)).length := by rw [uL _ (by omega)]
    have a19 : (ad4 k L 314 (k + 19)).length = (L (k + 19)).length := by rw [ad4_n _ (by omega)]
    have hSE : SE k L (upL L3 (k + 51) ((L3 (k + 51)).set (L (k + 47)).length (nI root))) := by
      intro a w1 w2
      obtain ⟨rr, er⟩ := g5 a w1 w2
      exact ⟨rr, by rw [uL a (by omega), er, ad4_n _ (by omega)]⟩
    have l51 : (L (k + 51)).length = (L (k + 47)).length := n2
    have nodeA : ∀ w, w < 1400 * h + md3 → (a_u2 B5 186 49 (nI (1400 * h + md3))) 188 w = B3 188 w ∧ (a_u2 B5 186 49 (nI (1400 * h + md3))) 189 w = B3 189 w ∧ (a_u2 B5 186 49 (nI (1400 * h + md3))) 190 w = B3 190 w := fun w hw => ⟨by rw [a_u2_n _ _ (by omega), m9 _ _ (by omega) (by omega)], by rw [a_u2_n _ _ (by omega), m9 _ _ (by omega) (by omega)], by rw [a_u2_n _ _ (by omega), m9 _ _ (by omega) (by omega)]⟩
    have r49 : rP h md3 nest B5 J5 (a_u2 B5 186 49 (nI (1400 * h + md3))) J5 := ⟨fun c i w1 _ _ _ => a_u2_n _ _ (by omega), fun _ _ _ _ _ _ => rfl⟩
    refine ⟨I4, 1, a_u2 B5 186 49 (nI (1400 * h + md3)), J5, by rw [p1, sb], ?_, Or.inr ⟨rfl, 1400 * h + md3, _, t3, r3, md3 + 1, S, a6, a8, a0, hC6, ⟨c1, c2, c3, c4, c5, ⟨by rw [len47]; omega, c6.2.1, c6.2.2⟩, c7⟩, a_u2_s _ _ _ _, by omega, by omega, by rw [a_u2_n _ _ (by omega)]; exact m6, ⟨by omega, by rw [len47]; omega, ⟨Nat.le_refl _, by rw [len47]; omega⟩, Or.inr (Or.inr (Or.inr (Or.inr (Or.inr (Or.inr (Or.inr ⟨e, root, (ad4 k L 314 (k + 19)).length, d, ?_, ?_, ?_, ?_, ?_, rfl⟩))))))⟩, len47, ⟨hSE, cL, ⟨fun a w1 w2 => same a (Or.inl ⟨w1, w2⟩), exb_snoc0 n3 e47 e53 (Or.inl rfl)⟩, fun j hj => ⟨?_, ?_, ?_, ?_⟩, fun j hj => ⟨by rw [same _ (by omega)], by rw [same _ (by omega)]⟩, ⟨[], by rw [same _ (by omega), List.append_nil]⟩, by rw [len47]; omega, by rw [same _ (by omega)]; exact Nat.le_refl _, by omega, by omega, by rw [e19]; omega, by omega, by rw [len47]; omega, by rw [same _ (by omega)]; omega, by rw [same _ (by omega)]; omega⟩, fr1'.trans ((cS_cQ g11).trans (fun c w1 w2 w3 => p3 c (by omega))), (((rf_rP k7).trans (rS_rP g12) (Nat.le_refl _) (Nat.le_refl nest)).trans (rS_rP m8) g7 (Nat.le_refl nest)).trans r49 (by omega) (Nat.le_refl nest), lk_rfl⟩⟩
    · rw [if_neg i10]
      show ((mX12_node B3 J3 51 (B3 186 47) (-1) 0).bind fun q35 => some (1, a_u2 q35.2.1 186 49 q35.1, q35.2.2)) = _
      rw [g4, m1, sb]
    · rw [a_u2_n _ _ (by omega)]; exact m3
    · rw [e47]; exact gI_e _ _
    · rw [a_u2_n _ _ (by omega)]; exact m4
    · rw [uL5]; exact gI_se (by simp; omega) _
    · exact er_to g2.1.2.2.2.1 (fun a w1 w2 => ⟨[], by rw [uL a (by omega), List.append_nil]⟩) (fun w hw => nodeA w hw.2) (fun w hw => ⟨hw.1, by omega, by omega⟩) _ _ _ _ _ _ _ (Nat.le_refl _) (Nat.le_refl _) g3
    · rw [e47, gI_l _ hj]
    · rw [e49, gI_l _ (by omega)]
    · rw [uL5, gI_sn (by omega), gI_l _ (by omega)]
    · rw [e53, gI_l _ (by omega)]
end
