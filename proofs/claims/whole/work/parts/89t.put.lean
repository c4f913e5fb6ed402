/-! PUT (pure) -/
section
variable {k h M n : Nat} {D : List Df} {F : fT} {I B : iT} {J : jT} {L : lT} {bs : List Nat} {t : Tok} {r : List Tok} {P md nest wd b z : Nat} {S : List Sl} {a6 a8 a0 : List Int32}
theorem st_put (R : sc_12actT) (hC : CR I B J bs t r) (H : PS k h M n D F I B J L t.2.2 md nest S a6 a8 a0 wd b 0) (q : t.1 = 303) : SO k h M n D F I B J L bs t.2.2 md nest S a6 a8 a0 wd b (mX3_readTalk I F 303 (nI nest)) (bX12_act R B J 103) := by
  have hk0 := H.1.1.1
  have hF := H.2.1.1
  have hnod := H.2.2.1
  have bb := H.1.2.2.2.2.2.2.2
  have bn := H.2.2.2.2.2.1
  have hbb := H.2.2.2.2.2.2.2.2
  have htl : tl 303 = 3 := by decide
  have hh := H.1.2.2.2.2.1.1
  have hlen : (L (k + 47)).length < 2 ^ 31 := by
    have := cr_end hC
    omega
  obtain ⟨B2, J2, e3, HO⟩ := tk_ok hC H (w := 303) (gc := 2) (hc := 3) (gk := 33) (hk := 63) (Or.inr (Or.inr (Or.inl ⟨rfl, rfl, rfl, rfl, rfl⟩))) q (nI nest)
  have eR : bX12_act R B J 103 = (mX12_aChannel B2 J2 2 3).bind fun q5 => if q5.1 = 0 then some (0, q5.2.1, q5.2.2) else (mX12_expression SF q5.2.1 q5.2.2).bind fun q6 => if q6.1 = 0 then some (0, q6.2.1, q6.2.2) else if inb (q5.2.1 186 48) 128 then if inb (q6.2.1 209 (q5.2.1 186 48).toNatClampNeg) 2800 then if inb (q5.2.1 186 48) 128 then (mX12_node (a_u2 q6.2.1 209 (q5.2.1 186 48).toNatClampNeg (q6.2.1 189 (q6.2.1 209 (q5.2.1 186 48).toNatClampNeg).toNatClampNeg)) q6.2.2 42 (q5.2.1 186 48) ((a_u2 q6.2.1 209 (q5.2.1 186 48).toNatClampNeg (q6.2.1 189 (q6.2.1 209 (q5.2.1 186 48).toNatClampNeg).toNatClampNeg)) 186 47) 0).bind fun q7 => some (1, a_u2 q7.2.1 186 49 q7.1, q7.2.2) else none else none else none := by
    unfold bX12_act
    rw [if_neg (by decide), if_neg (by decide), e3, sb]
    rfl
  rw [eR]
  rcases HO with ⟨I', B3, J3, c1, c2, c3⟩ | ⟨i, s, kd, wc, I7, B3, J3, t3, r3, L7, d1, d2, d3, d4, d5, d6, d7, d8, d9, d10, d11, d12, d13, d14, d15, d16, d17⟩
  · exact ⟨I', 0, B3, J3, c1, by rw [c2, sb, if_pos rfl], Or.inl ⟨rfl, c3⟩⟩
  · have d7' : mX3_readTalk I F 303 (nI nest) = (mX7_readSum SF I7 F 0 (nI nest)).bind fun q8 => (mX4_put (k + 51) q8.2 (nI (L (k + 47)).length) q8.1).bind fun q9 => mX3_readTalk_229 q9 F 303 (nI nest) (nI (L (k + 47)).length) (nI i) (nI s.2.2.2.1) (gI (L (k + 6)) s.2.2.2.1) := by
      show mX3_readTalk I F (nI 303) (nI nest) = _
      rw [d7]
      unfold tkR
      rw [if_pos (by decide), hF]
      rfl
    obtain ⟨x, I8, v, B4, J4, f1, f2, HE⟩ := ps_expr d9 d10
    rw [d8, sb, if_neg i10]
    show SO k h M n D F I B J L bs t.2.2 md nest S a6 a8 a0 wd b _ ((mX12_expression SF B3 J3).bind fun q6 => if q6.1 = 0 then some (0, q6.2.1, q6.2.2) else if inb (B3 186 48) 128 then if inb (q6.2.1 209 (B3 186 48).toNatClampNeg) 2800 then if inb (B3 186 48) 128 then (mX12_node (a_u2 q6.2.1 209 (B3 186 48).toNatClampNeg (q6.2.1 189 (q6.2.1 209 (B3 186 48).toNatClampNeg).toNatClampNeg)) q6.2.2 42 (B3 186 48) ((a_u2 q6.2.1 209 (B3 186 48).toNatClampNeg (q6.2.1 189 (q6.2.1 209 (B3 186 48).toNatClampNeg).toNatClampNeg)) 186 47) 0).bind fun q7 => some (1, a_u2 q7.2.1 186 49 q7.1, q7.2.2) else none else none else none)
    rw [f2, sb]
    rcases HE with ⟨hv, hp⟩ | ⟨hv, root, L8, t8, r8, md8, e, d, hx, g1, g2, g3, g4, g5, g6, g7, g8, g9, g10, g11, g12⟩
    · subst hv
      obtain ⟨I', a1, a2⟩ := pfu_PL (PL.pre (cQ_FQ d16) (rP_RX d17) hp) (c' := b + 1) (o := (mX4_put (k + 51) I8 (nI (L (k + 47)).length) x).bind fun q9 => mX3_readTalk_229 q9 F 303 (nI nest) (nI (L (k + 47)).length) (nI i) (nI s.2.2.2.1) (gI (L (k + 6)) s.2.2.2.1)) (fun f p hf => pfu_mono (pfu_u (pf_putB hf (by unfold rowB; omega) _ _) (fun I4 h4 => pf_229 h4 _ _ _ _ _ _)) (Nat.le_succ b) (by omega))
      exact ⟨I', 0, B4, J4, by rw [d7', f1, sb]; exact a1, by rw [if_pos rfl], Or.inl ⟨rfl, a2⟩⟩
    · subst hv
      subst hx
      have hP8 := cr_end g1
      obtain ⟨I9, p1, p2, p3⟩ := ps_put g2 (a := k + 51) (by omega) (j := (L (k + 47)).length) hlen (nI root)
      have hng := ng_51 hnod (ng_x d11 g5 g6) (nI root)
      have hsr := p2.1.2.2.2.2.2.1
      obtain ⟨y1, y2, y3⟩ := (hsr.2.2.1 i s d1).2.2.2.2 d2
      have hil : i < S.length := (List.getElem?_eq_some_iff.mp d1).1
      have hu := tr_u y3
      have hLs : ∀ a, k + 2 ≤ a → a ≤ k + 12 → upL L8 (k + 51) ((L8 (k + 51)).set (L (k + 47)).length (nI root)) a = L a := fun a w1 w2 => by rw [upL_n _ _ (by omega), g6 _ (by omega), d12 _ (by omega)]
      have hkd : kd = 33 ∨ kd = 63 := by
        unfold KW kw6 at d3
        by_cases z : i = 0
        · rw [if_pos z] at d6
          exact Or.inl ((nI_eq (a := kd) (b := 33) (by omega) (by omega)).mp d6)
        · rw [if_neg z] at d6
          exact Or.inr ((nI_eq (a := kd) (b := 63) (by omega) (by omega)).mp d6)
      obtain ⟨u1, t1, p1', z1, z2, z3, z4, z5⟩ := tr_one y3 y2 (by rw [hLs _ (by omega) (by omega)]; exact d4) hkd
      rw [hLs _ (by omega) (by omega)] at z3
      obtain ⟨I10, s1, H10, s3⟩ := ps_set p2 d1 d2 z4 z5
      obtain ⟨B5, J5, m1, m2, m3, m4, m5, m6, m7, m8, m9, m10⟩ := ps_rnode H10 (by omega) (by omega) 42 (nI (sg n i)) (nI e) 0
      have H6 := ps_49 m2 49 (by omega) (nI (1400 * h + md8))
      have hC9 : CR I10 (a_u2 B5 186 49 (nI (1400 * h + md8))) J5 bs t8 r8 := CR_B (CR_I g1 (by rw [s3 6 (by omega), p3 6 (by omega)]) (by rw [s3 9 (by omega), p3 9 (by omega)]) (by rw [s3 10 (by omega), p3 10 (by omega)]) (by rw [s3 11 (by omega), p3 11 (by omega)])) (fun j _ _ => by rw [a_u2_n _ _ (by omega), m9 _ _ (by omega) (by omega), a_u2_n _ _ (by omega)]) (funext fun j => by rw [a_u2_n _ _ (by omega), m9 _ _ (by omega) (by omega), a_u2_n _ _ (by omega)]) (m10 _ _ (by omega))
      have hg := ng_g hnod hng
      have b19 : (L7 (k + 19)).length = (L (k + 19)).length := by rw [d12 _ (by omega)]
      have eL19 : upL L8 (k + 51) ((L8 (k + 51)).set (L (k + 47)).length (nI root)) (k + 19) = L8 (k + 19) := upL_n _ _ (by omega)
      have eL59 : upL L8 (k + 51) ((L8 (k + 51)).set (L (k + 47)).length (nI root)) (k + 59) = L (k + 59) := by rw [upL_n _ _ (by omega), g6 _ (by omega), d12 _ (by omega)]
      have nodeA : ∀ w, w < 1400 * h + md8 → (a_u2 B5 186 49 (nI (1400 * h + md8))) 188 w = B4 188 w ∧ (a_u2 B5 186 49 (nI (1400 * h + md8))) 189 w = B4 189 w ∧ (a_u2 B5 186 49 (nI (1400 * h + md8))) 190 w = B4 190 w := fun w hw => ⟨by rw [a_u2_n _ _ (by omega), m9 _ _ (by omega) (by omega), a_u2_n _ _ (by omega)], by rw [a_u2_n _ _ (by omega), m9 _ _ (by omega) (by omega), a_u2_n _ _ (by omega)], by rw [a_u2_n _ _ (by omega), m9 _ _ (by omega) (by omega), a_u2_n _ _ (by omega)]⟩
      refine ⟨I10, 1, a_u2 B5 186 49 (nI (1400 * h + md8)), J5, ?_, ?_, Or.inr ⟨rfl, sg_of hnod hng hC9 H6 (by omega) (by omega) (by rw [eL19]; omega) (by omega) (by omega) (by rw [eL59]; omega) (a_u2_s _ _ _ _) (by omega) (by omega) (by rw [a_u2_n _ _ (by omega)]; exact m6) ⟨by omega, by omega, ⟨Nat.le_refl _, by omega⟩, Or.inr (Or.inl ⟨i, s.2.2.2.1, t1, e, root, (L7 (k + 19)).length, d, by rw [a_u2_n _ _ (by omega)]; exact m3, hg.1, by rw [a_u2_n _ _ (by omega)]; exact m4, hg.2.1, by rw [gm_get d1, d2], by rw [hLs _ (by omega) (by omega), d4]; exact d6, ⟨by rw [hLs _ (by omega) (by omega)]; exact z3, by have w1 := (tr_u z5).2.2; have w2 := rs_K p2.1.1; omega⟩, by rw [a_u2_n _ _ (by omega)]; exact m5, hg.2.2.1, ?_, by rw [gm_set]⟩)⟩ (d16.trans ((cS_cQ g11).trans (fun c w1 w2 w3 => by rw [s3 c (by omega), p3 c (by omega)]))) ((((d17.trans (rS_rP g12) (Nat.le_refl _) (Nat.le_refl nest)).trans (rP_209 (sg n i) (nI u1)) g7 (Nat.le_refl nest)).trans (rS_rP m8) g7 (Nat.le_refl nest)).trans (rP_sc (by omega) _) g7 (Nat.le_refl nest)) (by repeat (first | exact lk_rfl | apply lk_6 | apply lk_8 | apply lk_0))⟩⟩
      · rw [d7', f1, sb]
        show ((mX4_put (k + 51) I8 (nI (L (k + 47)).length) (nI root)).bind fun q9 => mX3_readTalk_229 q9 F 303 (nI nest) (nI (L (k + 47)).length) (nI i) (nI s.2.2.2.1) (gI (L (k + 6)) s.2.2.2.1)) = _
        rw [p1, sb]
        unfold mX3_readTalk_229
        rw [z3, s1, sb]
      · rw [if_neg i10, d13]
        have c128 := cl128 (show sg n i < 128 by omega)
        have i128' : inb (nI (sg n i)) 128 := in128 (by omega)
        have iu := in28 hu.1
        have iu2 : inb (B4 209 (nI (sg n i)).toNatClampNeg) 2800 := by rw [c128, y1]; exact iu
        show (if inb (nI (sg n i)) 128 then if inb (B4 209 (nI (sg n i)).toNatClampNeg) 2800 then if inb (nI (sg n i)) 128 then (mX12_node (a_u2 B4 209 (nI (sg n i)).toNatClampNeg (B4 189 (B4 209 (nI (sg n i)).toNatClampNeg).toNatClampNeg)) J4 42 (nI (sg n i)) ((a_u2 B4 209 (nI (sg n i)).toNatClampNeg (B4 189 (B4 209 (nI (sg n i)).toNatClampNeg).toNatClampNeg)) 186 47) 0).bind fun q7 => some (1, a_u2 q7.2.1 186 49 q7.1, q7.2.2) else none else none else none) = _
        rw [if_pos i128', if_pos iu2, if_pos i128', c128, y1, cl28 hu.1, z1, a_u2_n _ _ (by omega), g4, m1, sb]
      · exact er_to g2.1.2.2.2.1 (fun a w1 w2 => ⟨[], by rw [upL_n _ _ (by omega), List.append_nil]⟩) (fun w hw => nodeA w hw.2) (fun w hw => ⟨hw.1, by omega, by omega⟩) _ _ _ _ _ _ _ (Nat.le_refl _) (Nat.le_refl _) g3
end
