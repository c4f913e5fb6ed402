/-! TAKE (pure) -/
section
variable {k h M n : Nat} {D : List Df} {F : fT} {I B : iT} {J : jT} {L : lT} {bs : List Nat} {t : Tok} {r : List Tok} {P md nest wd b z : Nat} {S : List Sl} {a6 a8 a0 : List Int32}
theorem st_take (R : sc_12actT) (hC : CR I B J bs t r) (H : PS k h M n D F I B J L t.2.2 md nest S a6 a8 a0 wd b 0) (hS1 : S.length + 1 ≤ 5 + wd) (q : t.1 = 306) (x2 : Int32) : SO k h M n D F I B J L bs t.2.2 md nest S a6 a8 a0 wd b (mX3_readTalk I F 306 x2) (bX12_act R B J 106) := by
  have hk0 := H.1.1.1
  have hF := H.2.1.1
  have hnod := H.2.2.1
  have bb := H.1.2.2.2.2.2.2.2
  have bn := H.2.2.2.2.2.1
  have hbb := H.2.2.2.2.2.2.2.2
  have htl : tl 306 = 4 := by decide
  have hh := H.1.2.2.2.2.1.1
  have hlen : (L (k + 47)).length < 2 ^ 31 := by
    have := cr_end hC
    omega
  obtain ⟨B2, J2, e3, HO⟩ := tk_ok hC H (w := 306) (gc := 5) (hc := 4) (gk := 60) (hk := 62) (Or.inr (Or.inr (Or.inr (Or.inr (Or.inr (Or.inl ⟨rfl, rfl, rfl, rfl, rfl⟩)))))) q x2
  have eR : bX12_act R B J 106 = (mX12_aChannel B2 J2 5 4).bind fun q8 => if q8.1 = 0 then some (0, q8.2.1, q8.2.2) else (mX12_isFree q8.2.1 q8.2.2).bind fun q9 => if q9.1 = 0 then some (0, q9.2, q8.2.2) else if inb (q9.2 186 48) 128 then if inb (q9.2 209 (q9.2 186 48).toNatClampNeg) 2800 then if inb (q9.2 186 48) 128 then if inb (q9.2 209 (q9.2 186 48).toNatClampNeg) 2800 then (mX12_newSlot (a_u2 q9.2 209 (q9.2 186 48).toNatClampNeg (q9.2 190 (q9.2 209 (q9.2 186 48).toNatClampNeg).toNatClampNeg)) q8.2.2 (q8.2.2 186 6) 2 ((a_u2 q9.2 209 (q9.2 186 48).toNatClampNeg (q9.2 190 (q9.2 209 (q9.2 186 48).toNatClampNeg).toNatClampNeg)) 189 (q9.2 209 (q9.2 186 48).toNatClampNeg).toNatClampNeg)).bind fun q10 => (mX12_node q10.2.1 q10.2.2 45 ((a_u2 q9.2 209 (q9.2 186 48).toNatClampNeg (q9.2 190 (q9.2 209 (q9.2 186 48).toNatClampNeg).toNatClampNeg)) 186 48) q10.1 0).bind fun q11 => (mX12_look0 (a_u2 q11.2.1 186 49 q11.1) q11.2.2).bind fun q12 => some (1, q12.1, q12.2) else none else none else none else none := by
    unfold bX12_act
    rw [if_neg (by decide), if_neg (by decide), e3, sb]
    rfl
  rw [eR]
  rcases HO with ⟨I', B3, J3, c1, c2, c3⟩ | ⟨i, s, kd, wc, I7, B3, J3, t3, r3, L7, d1, d2, d3, d4, d5, d6, d7, d8, d9, d10, d11, d12, d13, d14, d15, d16, d17⟩
  · exact ⟨I', 0, B3, J3, c1, by rw [c2, sb, if_pos rfl], Or.inl ⟨rfl, c3⟩⟩
  · have d7' : mX3_readTalk I F 306 x2 = (mX3_readFreshThing I7).bind fun q15 => (mX4_at (k + 1 + 3) q15.2 (nI s.2.2.2.1)).bind fun q16 => (mX5_add q15.2 q15.1 q16).bind fun q17 => (mX4_put (k + 51) q17.2 (nI (L (k + 47)).length) q17.1).bind fun q18 => mX3_readTalk_229 q18 F 306 x2 (nI (L (k + 47)).length) (nI i) (nI s.2.2.2.1) (gI (L (k + 6)) s.2.2.2.1) := by
      show mX3_readTalk I F (nI 306) x2 = _
      rw [d7]
      unfold tkR
      rw [if_neg (by decide), if_neg (by decide), if_neg (by decide), if_neg (by decide), hF]
      rfl
    have hsr := d10.1.2.2.2.2.2.1
    obtain ⟨y1, y2, y3⟩ := (hsr.2.2.1 i s d1).2.2.2.2 d2
    have hil : i < S.length := (List.getElem?_eq_some_iff.mp d1).1
    have hu := tr_u y3
    have hK := rs_K d10.1.1
    have hkd : kd = 60 ∨ kd = 62 := by
      unfold KW kw6 at d3
      by_cases z : i = 0
      · rw [if_pos z] at d6
        exact Or.inl ((nI_eq (a := kd) (b := 60) (by omega) (by omega)).mp d6)
      · rw [if_neg z] at d6
        exact Or.inr ((nI_eq (a := kd) (b := 62) (by omega) (by omega)).mp d6)
    obtain ⟨u1, t1, p1', u2, t2, p2', z0, z1, z2, z3, z4b, z4, z5b, z5⟩ := tr_two y3 y2 (by rw [d12 _ (by omega)]; exact d4) hkd.symm
    rw [d8, sb, if_neg i10]
    show SO k h M n D F I B J L bs t.2.2 md nest S a6 a8 a0 wd b _ ((mX12_isFree B3 J3).bind fun q9 => if q9.1 = 0 then some (0, q9.2, J3) else if inb (q9.2 186 48) 128 then if inb (q9.2 209 (q9.2 186 48).toNatClampNeg) 2800 then if inb (q9.2 186 48) 128 then if inb (q9.2 209 (q9.2 186 48).toNatClampNeg) 2800 then (mX12_newSlot (a_u2 q9.2 209 (q9.2 186 48).toNatClampNeg (q9.2 190 (q9.2 209 (q9.2 186 48).toNatClampNeg).toNatClampNeg)) J3 (J3 186 6) 2 ((a_u2 q9.2 209 (q9.2 186 48).toNatClampNeg (q9.2 190 (q9.2 209 (q9.2 186 48).toNatClampNeg).toNatClampNeg)) 189 (q9.2 209 (q9.2 186 48).toNatClampNeg).toNatClampNeg)).bind fun q10 => (mX12_node q10.2.1 q10.2.2 45 ((a_u2 q9.2 209 (q9.2 186 48).toNatClampNeg (q9.2 190 (q9.2 209 (q9.2 186 48).toNatClampNeg).toNatClampNeg)) 186 48) q10.1 0).bind fun q11 => (mX12_look0 (a_u2 q11.2.1 186 49 q11.1) q11.2.2).bind fun q12 => some (1, q12.1, q12.2) else none else none else none else none)
    have hP3 := cr_end d9
    rcases gt_ok d9 d10 (by omega) hS1 d1 d2 z4 z5 (c1 := 2) (cu := u1) (ct := t1) (cp := p1') (Or.inr ⟨rfl, z4b, z5b⟩) (nI u1) (fun _ => rfl) hlen 45 with ⟨x, I8, B4, f1, f2, f3⟩ | ⟨I8, I9, I10, I11, B4, J4, B5, J5, B8, J8, t8, r8, b6, b8, b0, f1, f2, f3, f4, f5, f6, f7, f8, f9, f10, f11, f12, f13, f14, f15, f16, f17, f18, f19⟩
    · obtain ⟨I', a1, a2⟩ := pfu_PL (PL.pre (cQ_FQ d16) (rP_RX d17) f3) (c' := b + 1) (o := (mX4_at (k + 1 + 3) I8 (nI s.2.2.2.1)).bind fun q16 => (mX5_add I8 x q16).bind fun q17 => (mX4_put (k + 51) q17.2 (nI (L (k + 47)).length) q17.1).bind fun q18 => mX3_readTalk_229 q18 F 306 x2 (nI (L (k + 47)).length) (nI i) (nI s.2.2.2.1) (gI (L (k + 6)) s.2.2.2.1)) (fun f p hf => pfu_r (fm_at hf.1 (a := k + 1 + 3) (by unfold rowA; omega) _) (fun v => pfu_o (pf_add hf (by omega) _ _) (fun x2 I2 h2 => pfu_u (pf_putB h2 (by unfold rowB; omega) _ _) (fun I3 h3 => pf_229 h3 _ _ _ _ _ _))))
      exact ⟨I', 0, B4, J3, by rw [d7', f1, sb]; exact a1, by rw [f2, sb, if_pos rfl], Or.inl ⟨rfl, a2⟩⟩
    · have hng := ng_51 hnod d11 (nI S.length)
      have hg := ng_g hnod hng
      have hRS8 : RS I8 k L7 := rs_keep d10.1.1 (fun a ha => by
        unfold rowA at ha
        exact ⟨f3 a (by omega), f3 (a + 1) (by omega)⟩)
      have e4 : mX4_at (k + 1 + 3) I8 (nI s.2.2.2.1) = some (nI t1) := by
        have := rs_g hRS8 (a := k + 4) (by unfold rowA; omega) (j := s.2.2.2.1) (by omega)
        rw [z2] at this
        exact this
      have hLs : ∀ a, a ≠ k + 51 → upL L7 (k + 51) ((L7 (k + 51)).set (L (k + 47)).length (nI S.length)) a = L7 a := fun a w => upL_n _ _ w
      refine ⟨I11, 1, B8, J8, ?_, ?_, Or.inr ⟨rfl, sg_of hnod hng f10 f11 (by omega) (by omega) (by rw [hLs _ (by omega), d12 _ (by omega)]; omega) (by omega) (by omega) (by rw [hLs _ (by omega), d12 _ (by omega)]; omega) f12 (by omega) (by omega) f16 ⟨by omega, by omega, ⟨Nat.le_refl _, by omega⟩, Or.inr (Or.inr (Or.inr (Or.inr (Or.inl ⟨i, s.2.2.2.1, t1, t2, f13, hg.1, f14, hg.2.1, by rw [gm_get d1, d2], by rw [hLs _ (by omega), d12 _ (by omega), d4]; exact d6, by rw [hLs _ (by omega)]; exact z2, ⟨by rw [hLs _ (by omega)]; exact z3, by have w1 := (tr_u z5b).2.2; omega, by have w1 := (tr_u z5).2.2; omega⟩, ⟨by rw [gm_len]; exact f15, by have w80 := H.2.2.2.2.1.2.2.1; rw [gm_len]; omega⟩, by rw [gm_len]; exact hg.2.2.1, by rw [gm_set, gm_app, set_app (by rw [gm_len]; exact hil)]⟩))))⟩ (d16.trans f18) (d17.trans f19.1 (Nat.le_refl md) (Nat.le_refl nest)) f19.2⟩⟩
      · rw [d7', f2, sb]
        show ((mX4_at (k + 1 + 3) I8 (nI s.2.2.2.1)).bind fun q16 => (mX5_add I8 (nI (cN t3.2.1)) q16).bind fun q17 => (mX4_put (k + 51) q17.2 (nI (L (k + 47)).length) q17.1).bind fun q18 => mX3_readTalk_229 q18 F 306 x2 (nI (L (k + 47)).length) (nI i) (nI s.2.2.2.1) (gI (L (k + 6)) s.2.2.2.1)) = _
        rw [if_pos rfl] at f4
        rw [e4, sb, f4, sb]
        show ((mX4_put (k + 51) I9 (nI (L (k + 47)).length) (nI S.length)).bind fun q18 => mX3_readTalk_229 q18 F 306 x2 (nI (L (k + 47)).length) (nI i) (nI s.2.2.2.1) (gI (L (k + 6)) s.2.2.2.1)) = _
        rw [f5, sb]
        unfold mX3_readTalk_229
        rw [← d12 (k + 6) (by omega), z3, f6, sb]
      · rw [f1, sb, if_neg i10]
        have c128 := cl128 (show sg n i < 128 by omega)
        have i128' : inb (nI (sg n i)) 128 := in128 (by omega)
        have iu := in28 hu.1
        have iu2 : inb (B3 209 (nI (sg n i)).toNatClampNeg) 2800 := by rw [c128, y1]; exact iu
        show (if inb (B3 186 48) 128 then if inb (B3 209 (B3 186 48).toNatClampNeg) 2800 then if inb (B3 186 48) 128 then if inb (B3 209 (B3 186 48).toNatClampNeg) 2800 then (mX12_newSlot (a_u2 B3 209 (B3 186 48).toNatClampNeg (B3 190 (B3 209 (B3 186 48).toNatClampNeg).toNatClampNeg)) J3 (J3 186 6) 2 ((a_u2 B3 209 (B3 186 48).toNatClampNeg (B3 190 (B3 209 (B3 186 48).toNatClampNeg).toNatClampNeg)) 189 (B3 209 (B3 186 48).toNatClampNeg).toNatClampNeg)).bind fun q10 => (mX12_node q10.2.1 q10.2.2 45 ((a_u2 B3 209 (B3 186 48).toNatClampNeg (B3 190 (B3 209 (B3 186 48).toNatClampNeg).toNatClampNeg)) 186 48) q10.1 0).bind fun q11 => (mX12_look0 (a_u2 q11.2.1 186 49 q11.1) q11.2.2).bind fun q12 => some (1, q12.1, q12.2) else none else none else none else none) = _
        rw [a_u2_n _ _ (by omega), d13, if_pos i128', if_pos iu2, if_pos i128', if_pos iu2, c128, y1, cl28 hu.1, a_u2_n _ _ (by omega), z0, z1]
        rw [if_neg (by decide)] at f7
        rw [f7, sb, d13]
        show ((mX12_node B4 J4 45 (nI (sg n i)) (nI S.length) 0).bind fun q11 => (mX12_look0 (a_u2 q11.2.1 186 49 q11.1) q11.2.2).bind fun q12 => some (1, q12.1, q12.2)) = _
        rw [f8, sb]
        show ((mX12_look0 (a_u2 B5 186 49 (nI (1400 * h + md))) J5).bind fun q12 => some (1, q12.1, q12.2)) = _
        rw [f9, sb]
end
