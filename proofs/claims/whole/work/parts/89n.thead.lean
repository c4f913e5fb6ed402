/-! A WORD AND ITS CHANNEL, in both (pure) -/
section
variable {k h M n : Nat} {D : List Df} {F : fT} {I B : iT} {J : jT} {L : lT} {bs : List Nat} {t : Tok} {r : List Tok} {md nest wd b : Nat} {S : List Sl} {a6 a8 a0 : List Int32}
theorem th_ok (hC : CR I B J bs t r) (H : PS k h M n D F I B J L t.2.2 md nest S a6 a8 a0 wd b 0) {w : Nat} {gc hc gk hk : Int32} (hw : CW w gc hc gk hk) (q : t.1 = w) :
    ∃ I1 I2 B2 J2, mX0_addNode k I (nI w) = some (nI (L (k + 47)).length, I1) ∧ mX2_advance I1 = some I2 ∧ mX12_look0 B J = some (B2, J2) ∧
    ((∃ x I3 B3 J3, mX3_readChannel I2 F (nI w) = some (x, I3) ∧ mX12_aChannel B2 J2 gc hc = some (0, B3, J3) ∧ PL k h b I B J I3 B3 J3) ∨
     (∃ i s kd wc I3 B3 J3 t3 r3, S[i]? = some s ∧ s.1 = 2 ∧ KW kd wc ∧ gI (L (k + 2)) s.2.2.2.1 = nI kd ∧ B 188 s.2.2.1 = nI wc ∧ nI kd = (if i = 0 then gk else hk) ∧ mX3_readChannel I2 F (nI w) = some (nI i, I3) ∧ mX12_aChannel B2 J2 gc hc = some (1, B3, J3) ∧ CR I3 B3 J3 bs t3 r3 ∧ PS k h M n D F I3 B3 J3 (ad4 k L (nI w)) t3.2.2 md nest S a6 a8 a0 wd b 4 ∧ B3 186 48 = nI (sg n i) ∧ t.2.2 + tl w + 1 ≤ t3.2.2 ∧ cQ k I I3 ∧ rP h md nest B J B3 J3 ∧ (∀ c v, 188 ≤ c → c ≤ 191 → B3 c v = B c v) ∧ (∀ v, J3 192 v = J 192 v))) := by
  have hk0 := H.1.1.1
  have hF := H.2.1.1
  have hw3 : 300 ≤ w ∧ w ≤ 316 := by unfold CW at hw; omega
  have htl : 1 ≤ tl w := by
    unfold tl
    rw [if_neg (by omega), if_neg (by omega)]
    have : ∀ x, x < 17 → 1 ≤ (wl.getD x []).length := by decide
    exact this _ (by omega)
  obtain ⟨u0, r0, y1, y2, y3⟩ := tkl_more hC.2.2.1 (by omega)
  have hend := tkl_end r0 u0 y2
  rw [q] at y3
  obtain ⟨I1, e1, H1, f1⟩ := ps_node H (by omega) (nI w)
  have hC1 : CR I1 B J bs t r := CR_I hC (f1 6 (by omega)) (f1 9 (by omega)) (f1 10 (by omega)) (f1 11 (by omega))
  obtain ⟨u, r', I2, B2, J2, k1, k2, k3, k4, k5, k6, k7⟩ := jadv hC1 (by omega)
  rw [q] at k5
  have H2 := ps_cur H1 k6 k7 (P' := u.2.2) (by omega)
  have fr1' : cQ k I I2 := (show cQ k I I1 from fun c q1 q2 q3 => f1 c (by omega)).trans (cf_cQ k6)
  refine ⟨I1, I2, B2, J2, e1, k2, k3, ?_⟩
  rcases jchan hF k4 H2.1 (ps_scp H2) (by have := H.2.2.2.2.2.2.2.2; omega) hw with ⟨x, I3, B3, J3, c1, c2, c3⟩ | ⟨i, s, kd, wc, u3, r3, I3, B3, J3, c1, c2, c3, c4, c5, c6, c7, c8, c9, c10, c11, c12, c13, c14, c15⟩
  · exact Or.inl ⟨x, I3, B3, J3, c1, c2, PL.pre (cQ_FQ fr1') (rf_RX k7) c3⟩
  · right
    have H3 := ps_cur (ps_49 H2 48 (by omega) (nI (sg n i))) c14 c15 (P' := u3.2.2) (by omega)
    have hL2 : ad4 k L (nI w) (k + 2) = L (k + 2) := ad4_n _ (by omega)
    rw [hL2] at c6
    have r48 : rP h md nest B2 J2 (a_u2 B2 186 48 (nI (sg n i))) J2 := ⟨fun c j w1 _ _ _ => a_u2_n _ _ (by omega), fun _ _ _ _ _ _ => rfl⟩
    exact ⟨i, s, kd, wc, I3, B3, J3, u3, r3, c2, c3, c5, c6, by rw [← c7, k7.1 _ _ (by omega)], c8, c10, c11, c12, H3, by rw [c15.1 _ _ (by omega), a_u2_s], by omega, fr1'.trans (cf_cQ c14), ((rf_rP k7).trans r48 (Nat.le_refl _) (Nat.le_refl nest)).trans (rf_rP c15) (Nat.le_refl _) (Nat.le_refl nest), fun c v w1 w2 => by rw [c15.1 _ _ (by omega), a_u2_n _ _ (by omega), k7.1 _ _ (by omega)], fun v => by rw [c15.2 _ _ (by omega), k7.2 _ _ (by omega)]⟩
end
