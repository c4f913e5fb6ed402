/-! SEND (pure) -/
section
variable {k : Nat} {L : lT} {B : iT} {J : jT} {Q : Nat → Prop} {d u t p : Nat}
theorem tr_two2 {kd : Nat} (h : TR k L B J Q d u t p) (hp : p ≤ 200) (hk : gI (L (k + 2)) t = nI kd) (hkd : kd = 62 ∨ kd = 60) : ∃ u1 t1 p1 u2 t2 p2, B 189 u = nI u1 ∧ B 190 u = nI u2 ∧ gI (L (k + 4)) t = nI t1 ∧ gI (L (k + 6)) t = nI t2 ∧ p1 ≤ 200 ∧ p2 ≤ 200 ∧ TR k L B J Q p1 u1 t1 p1 ∧ TR k L B J Q p2 u2 t2 p2 ∧ p1 < p := by
  cases d with
  | zero => exact h.elim
  | succ d =>
    obtain ⟨h1, h2, h3, h4, h5⟩ := h
    have ne : ∀ c, c < 303 → c ≠ 62 → c ≠ 60 → gI (L (k + 2)) t ≠ nI c := by
      intro c c0 c1 c2 z
      clear h5
      rw [hk] at z
      have := (nI_eq (a := kd) (b := c) (by omega) (by omega)).mp z
      omega
    rcases h5 with ⟨c1, c2, c3, c4, c5, c6, c7⟩ | ⟨kd', w, u1, t1, p1, c1, c2, _⟩ | ⟨kd', w, u1, t1, p1, u2, t2, p2, c1, c2, c3, c4, c5, c6, c7, c8, c9, c10⟩ | ⟨kd', w, f, bl, c1, c2, _⟩
    · exact (ne 302 (by omega) (by omega) (by omega) c1).elim
    · exact (ne kd' (by omega) (by omega) (by omega) c2).elim
    · exact ⟨u1, t1, p1, u2, t2, p2, c4, c5, c6, c7, by omega, by omega, tr_fuel _ _ _ _ c9, tr_fuel _ _ _ _ c10, by omega⟩
    · exact (ne kd' (by omega) (by omega) (by omega) c2).elim
end
section
variable {k : Nat} {f p : Int32} {b : Nat} {I : iT} {F : fT}
theorem pf_76s (hp : PF k f p b I) (x1 x2 x3 x4 : Int32) : PFo k f p b I (mX3_readSent_76 I x1 x2 x3 x4) := by
  unfold mX3_readSent_76
  exact pfo_u (pf_drop hp _) (fun I1 h1 => pfo_ret h1 _)
theorem pf_63s (hp : PF k f p b I) (x1 x2 x3 x4 : Int32) : PFo k f p b I (mX3_readSent_63 I x1 x2 x3 x4) := by
  unfold mX3_readSent_63
  rw [fm_refuse hp.1, sb]
  exact pfo_if (pf_76s hp _ _ _ _) (pf_76s hp _ _ _ _)
theorem pf_48s (hp : PF k f p b I) (x1 x2 x3 x4 : Int32) : PFo k f p b I (mX3_readSent_48 I x1 x2 x3 x4) := by
  unfold mX3_readSent_48
  rw [fm_refuse hp.1, sb]
  exact pfo_if (pf_63s hp _ _ _ _) (pf_63s hp _ _ _ _)
theorem pf_sentR (hp : PF k f p b I) (x1 x2 x4 : Int32) : PFo k f p b I ((mX5_find I x4).bind fun q5 => (mX5_talkAt I q5).bind fun q6 => if q6 = -1 then (mX2_refuse I 2 x2).bind fun q7 => mX3_readSent_48 q7 x1 x2 q5 q6 else mX3_readSent_48 I x1 x2 q5 q6) := by
  refine pfo_r (pf_find hp _) (fun v => pfo_r (pf_talk hp _) (fun v2 => ?_))
  rw [fm_refuse hp.1, sb]
  exact pfo_if (pf_48s hp _ _ _ _) (pf_48s hp _ _ _ _)
end
section
variable {k h M n : Nat} {D : List Df} {F : fT} {I B : iT} {J : jT} {L : lT} {bs : List Nat} {t : Tok} {r : List Tok} {P md nest wd b z : Nat} {S : List Sl} {a6 a8 a0 : List Int32}
theorem st_send (R : sc_12actT) (hC : CR I B J bs t r) (H : PS k h M n D F I B J L t.2.2 md nest S a6 a8 a0 wd b 0) (q : t.1 = 305) (x2 : Int32) : SO k h M n D F I B J L bs t.2.2 md nest S a6 a8 a0 wd b (mX3_readTalk I F 305 x2) (bX12_act R B J 105) := by
  have hk0 := H.1.1.1
  have hF := H.2.1.1
  have hnod := H.2.2.1
  have bb := H.1.2.2.2.2.2.2.2
  have bn := H.2.2.2.2.2.1
  have hbb := H.2.2.2.2.2.2.2.2
  have htl : tl 305 = 4 := by decide
  have hh := H.1.2.2.2.2.1.1
  have hlen : (L (k + 47)).length < 2 ^ 31 := by
    have := cr_end hC
    omega
  obtain ⟨B2, J2, e3, HO⟩ := tk_ok hC H (w := 305) (gc := 4) (hc := 5) (gk := 62) (hk := 60) (Or.inr (Or.inr (Or.inr (Or.inr (Or.inl ⟨rfl, rfl, rfl, rfl, rfl⟩))))) q x2
  have eR : bX12_act R B J 105 = (mX12_sends B2 J2).bind fun q13 => if q13.1 = 0 ∨ q13.1 = 1 then some (q13.1, q13.2.1, q13.2.2) else none := by
    unfold bX12_act
    rw [if_neg (by decide), if_neg (by decide), e3, sb]
    rfl
  rw [eR]
  unfold mX12_sends
  rcases HO with ⟨I', B3, J3, c1, c2, c3⟩ | ⟨i, s, kd, wc, I7, B3, J3, t3, r3, L7, d1, d2, d3, d4, d5, d6, d7, d8, d9, d10, d11, d12, d13, d14, d15, d16, d17⟩
  · exact ⟨I', 0, B3, J3, c1, by rw [c2, sb, if_pos rfl, sb, if_pos (Or.inl rfl)], Or.inl ⟨rfl, c3⟩⟩
  · have hsr := d10.1.2.2.2.2.2.1
    obtain ⟨y1, y2, y3⟩ := (hsr.2.2.1 i s d1).2.2.2.2 d2
    have hil : i < S.length := (List.getElem?_eq_some_iff.mp d1).1
    have hu := tr_u y3
    have hK := rs_K d10.1.1
    have hN5 := len10 d10.1.1
    have hT := d10.1.2.2.1
    have hkd : kd = 62 ∨ kd = 60 := by
      unfold KW kw6 at d3
      by_cases z : i = 0
      · rw [if_pos z] at d6
        exact Or.inl ((nI_eq (a := kd) (b := 62) (by omega) (by omega)).mp d6)
      · rw [if_neg z] at d6
        exact Or.inr ((nI_eq (a := kd) (b := 60) (by omega) (by omega)).mp d6)
    obtain ⟨u1, t1, p1, u2, t2, p2, z1, z2, z3, z4, z5, z6, z7, z8, z9⟩ := tr_two2 y3 y2 (by rw [d12 _ (by omega)]; exact d4) hkd
    have hu1 := tr_u z7
    have e4 : mX4_at (k + 1 + 3) I7 (nI s.2.2.2.1) = some (nI t1) := by
      have := rs_g d10.1.1 (a := k + 4) (by unfold rowA; omega) (j := s.2.2.2.1) (by omega)
      rw [z3] at this
      exact this
    have d7' : mX3_readTalk I F 305 x2 = (mX2_takeName I7).bind fun q3 => ((mX5_find q3.2 q3.1).bind fun q5 => (mX5_talkAt q3.2 q5).bind fun q6 => if q6 = -1 then (mX2_refuse q3.2 2 (nI t3.2.2)).bind fun q7 => mX3_readSent_48 q7 (nI t1) (nI t3.2.2) q5 q6 else mX3_readSent_48 q3.2 (nI t1) (nI t3.2.2) q5 q6).bind fun q11 => (mX4_put (k + 51) q11.2 (nI (L (k + 47)).length) q11.1).bind fun q12 => mX3_readTalk_229 q12 F 305 x2 (nI (L (k + 47)).length) (nI i) (nI s.2.2.2.1) (gI (L (k + 6)) s.2.2.2.1) := by
      show mX3_readTalk I F (nI 305) x2 = _
      rw [d7]
      unfold tkR
      rw [if_neg (by decide), if_pos (by decide)]
      unfold mX3_readSent
      rw [hF, e4, sb, cr_8 d9]
      cases mX2_takeName I7 with
      | none => rfl
      | some a => rfl
    -- the class behind a fault
    have fin : ∀ {I9 B9 : iT} {J9 : jT} {o : Option (Int32 × iT)}, PL k h b I7 B3 J3 I9 B9 J9 → (∀ f p, PF k f p b I9 → PFo k f p b I9 o) → ∃ I', (o.bind fun q11 => (mX4_put (k + 51) q11.2 (nI (L (k + 47)).length) q11.1).bind fun q12 => mX3_readTalk_229 q12 F 305 x2 (nI (L (k + 47)).length) (nI i) (nI s.2.2.2.1) (gI (L (k + 6)) s.2.2.2.1)) = some I' ∧ PL k h (b + 1) I B J I' B9 J9 := by
      intro I9 B9 J9 o hpl ho
      exact pfu_PL (PL.pre (cQ_FQ d16) (rP_RX d17) hpl) (c' := b + 1) (fun f p hf => pfu_mono (pfu_o (ho f p hf) (fun x I1 h1 => pfu_u (pf_putB h1 (by unfold rowB; omega) _ _) (fun I2 h2 => pf_229 h2 _ _ _ _ _ _))) (Nat.le_succ b) (by omega))
    have hP3 := cr_end d9
    have c128 := cl128 (show sg n i < 128 by omega)
    have i128' : inb (nI (sg n i)) 128 := in128 (by omega)
    rw [d8, sb, if_neg i10]
    show SO k h M n D F I B J L bs t.2.2 md nest S a6 a8 a0 wd b _ ((if (B3 186 3) = 2 then (mX12_slot B3 J3 (J3 186 6)).bind fun q3 => if q3 = ((-1)) then mX12_sends_57 B3 J3 (B3 186 48) q3 else if inb q3 128 then if (B3 208 q3.toNatClampNeg) = 0 then mX12_sends_57 B3 J3 (B3 186 48) q3 else if inb (B3 186 48) 128 then if inb q3 128 then if inb (B3 209 (B3 186 48).toNatClampNeg) 2800 then (mX12_alike SF B3 J3 (B3 209 q3.toNatClampNeg) (B3 189 (B3 209 (B3 186 48).toNatClampNeg).toNatClampNeg)).bind fun q4 => if q4 = 0 then (mX12_bad B3 3 (B3 186 4)).bind fun q8 => if q8.1 = 0 ∨ q8.1 = 1 then some (q8.1, q8.2, J3) else none else if inb q3 128 then if (B3 208 q3.toNatClampNeg) = 1 then (mX12_bad B3 4 (B3 186 4)).bind fun q7 => if q7.1 = 0 ∨ q7.1 = 1 then some (q7.1, q7.2, J3) else none else if inb q3 128 then if inb (B3 209 (B3 186 48).toNatClampNeg) 2800 then if inb (B3 186 48) 128 then (mX12_node (a_u2 B3 209 (B3 186 48).toNatClampNeg (B3 190 (B3 209 (B3 186 48).toNatClampNeg).toNatClampNeg)) (a_u2 J3 206 q3.toNatClampNeg 0) 44 (B3 186 48) q3 0).bind fun q5 => (mX12_look0 (a_u2 q5.2.1 186 49 q5.1) q5.2.2).bind fun q6 => some (1, q6.1, q6.2) else none else none else none else none else none else none else none else none else (mX12_bad B3 1 (B3 186 4)).bind fun q9 => if q9.1 = 0 ∨ q9.1 = 1 then some (q9.1, q9.2, J3) else none).bind fun q13 => if q13.1 = 0 ∨ q13.1 = 1 then some (q13.1, q13.2.1, q13.2.2) else none)
    rw [d13]
    rcases jname d9 d10.1 with ⟨q2, q3, I9, B9, a1, a2, a3⟩ | ⟨q2, q3, u8, r8, I8, B8', J8', k1, k2, k3, k4, k5, k6, k7, k8, HN⟩
    · obtain ⟨I', b1, b2⟩ := fin (fail_PL a3 (ps_scp d10) (by omega)) (fun f p hf => pf_sentR hf (nI t1) (nI t3.2.2) 0)
      refine ⟨I', 0, B9, J3, by rw [d7', a1, sb]; exact b1, ?_, Or.inl ⟨rfl, b2⟩⟩
      rw [if_neg q3, cr_4 d9, a2, sb, if_pos (Or.inl rfl), sb, if_pos (Or.inl rfl)]
    · rw [if_pos q3]
      have hR8 := cf_RS k7 d10.1.1
      have eC : mX3_readTalk I F 305 x2 = ((mX5_find I8 (nI (cN t3.2.1))).bind fun q5 => (mX5_talkAt I8 q5).bind fun q6 => if q6 = -1 then (mX2_refuse I8 2 (nI t3.2.2)).bind fun q7 => mX3_readSent_48 q7 (nI t1) (nI t3.2.2) q5 q6 else mX3_readSent_48 I8 (nI t1) (nI t3.2.2) q5 q6).bind fun q11 => (mX4_put (k + 51) q11.2 (nI (L (k + 47)).length) q11.1).bind fun q12 => mX3_readTalk_229 q12 F 305 x2 (nI (L (k + 47)).length) (nI i) (nI s.2.2.2.1) (gI (L (k + 6)) s.2.2.2.1) := by
        rw [d7', k2, sb]
      rcases HN with ⟨v, v1, v2, v3⟩ | ⟨j, sj, j1, j2, j3, j4, j5, j6, j7, j8, j9, j10, j11⟩
      · obtain ⟨I9, B9, a1, a2, a3⟩ := jbad2 d9 hR8 (cr_9 k4) (cf_FX k7) h (f := 2) (by decide) (nI t3.2.2)
        obtain ⟨I', b1, b2⟩ := fin (fail_PL a3 (ps_scp d10) (by omega)) (fun f p hf => pf_48s hf (nI t1) (nI t3.2.2) v (-1))
        have e57 : ∀ y x, mX12_sends_57 B3 J3 y x = some (0, B9, J3) := by
          intro y x
          unfold mX12_sends_57
          rw [cr_4 d9, a2, sb, if_pos (Or.inl rfl)]
        refine ⟨I', 0, B9, J3, by rw [eC, v1, sb, v2, sb, if_pos rfl, a1, sb]; exact b1, ?_, Or.inl ⟨rfl, b2⟩⟩
        rcases v3 with v3 | ⟨sl, s1, s2, s3⟩
        · rw [v3, sb, if_pos rfl, e57, sb, if_pos (Or.inl rfl)]
        · rw [s2, sb, if_neg (nIm (by omega)), if_pos (in128 s1), congrArg (B3 208) (cl128 s1), if_pos s3, e57, sb, if_pos (Or.inl rfl)]
      · have j128 := in128 (show sg n j < 128 by omega)
        have jc := cl128 (show sg n j < 128 by omega)
        have huj := tr_u j11
        have hs0 : ¬ B3 208 (nI (sg n j)).toNatClampNeg = 0 := by
          rw [jc, j8]
          by_cases e : j = 0
          · rw [if_pos e]; decide
          · rw [if_neg e]; decide
        have iu2 : inb (B3 209 (nI (sg n i)).toNatClampNeg) 2800 := by rw [c128, y1]; exact in28 hu.1
        have hal := al_ok hT hK hN5 _ _ _ _ _ _ _ _ SF j11 z7 (by unfold SF; omega)
        have e209 : B3 189 (B3 209 (nI (sg n i)).toNatClampNeg).toNatClampNeg = nI u1 := by rw [c128, y1, cl28 hu.1, z1]
        have e209j : B3 209 (nI (sg n j)).toNatClampNeg = nI sj.2.2.1 := by rw [jc, j9]
        rw [j5, sb, if_neg (nIm (by omega)), if_pos j128, if_neg hs0, if_pos i128', if_pos j128, if_pos iu2, e209, e209j, hal, sb]
        have eC2 : mX3_readTalk I F 305 x2 = (mX3_readSent_48 I8 (nI t1) (nI t3.2.2) (nI j) (nI sj.2.2.2.1)).bind fun q11 => (mX4_put (k + 51) q11.2 (nI (L (k + 47)).length) q11.1).bind fun q12 => mX3_readTalk_229 q12 F 305 x2 (nI (L (k + 47)).length) (nI i) (nI s.2.2.2.1) (gI (L (k + 6)) s.2.2.2.1) := by
          rw [eC, j3, sb, j4, sb, if_neg (nIm (by omega))]
        by_cases et : sj.2.2.2.1 = t1
        · rw [if_pos et, if_neg i10, if_pos j128]
          by_cases ej : j = 0
          · have h1 : B3 208 (nI (sg n j)).toNatClampNeg = 1 := by rw [jc, j8, if_pos ej]
            obtain ⟨I9, B9, a1, a2, a3⟩ := jbad2 d9 hR8 (cr_9 k4) (cf_FX k7) h (f := 4) (by decide) (nI t3.2.2)
            obtain ⟨I', b1, b2⟩ := fin (fail_PL a3 (ps_scp d10) (by omega)) (fun f p hf => pf_76s hf (nI t1) (nI t3.2.2) (nI j) (nI sj.2.2.2.1))
            refine ⟨I', 0, B9, J3, ?_, ?_, Or.inl ⟨rfl, b2⟩⟩
            · rw [eC2]
              unfold mX3_readSent_48 mX3_readSent_63
              rw [if_pos (by rw [et]), if_pos (by rw [ej]; rfl), a1, sb]
              exact b1
            · rw [if_pos h1, cr_4 d9, a2, sb, if_pos (Or.inl rfl), sb, if_pos (Or.inl rfl)]
          · have h1 : ¬ B3 208 (nI (sg n j)).toNatClampNeg = 1 := by rw [jc, j8, if_neg ej]; decide
            have hji : j ≠ i := by
              intro e
              subst e
              have : sj = s := Option.some.inj (j1.symm.trans d1)
              subst this
              exact tr_lt hT hK hN5 y3 z7 y2 z5 (by omega) et
            rw [if_neg h1, if_pos j128, if_pos iu2, if_pos i128']
            have H8 := ps_cur d10 k7 (rf_rfl (B := B3) (J := J3)) (Nat.le_refl _)
            obtain ⟨I9, x1, x2', x3⟩ := ps_drop0 H8 j1 (by omega)
            obtain ⟨I10, p1x, p2x, p3x⟩ := ps_put x2' (a := k + 51) (by omega) (j := (L (k + 47)).length) hlen (nI j)
            have hLs : ∀ a, a ≠ k + 51 → upL L7 (k + 51) ((L7 (k + 51)).set (L (k + 47)).length (nI j)) a = L7 a := fun a w => upL_n _ _ w
            have hTR' : TR k (upL L7 (k + 51) ((L7 (k + 51)).set (L (k + 47)).length (nI j))) B3 (a_u2 J3 206 (sg n j) 0) (fun v => 1400 * h ≤ v ∧ v < M) p2 u2 t2 p2 := tr_to hT (TE_eq (fun a q1 q2 => hLs a (by omega))) (fun v _ => ⟨rfl, rfl, rfl, rfl, a_u2_n _ _ (by omega)⟩) (fun v hv => hv) _ _ _ _ _ (Nat.le_refl _) z8
            have hsi : (S.set j (0, [], 0, 0, 0))[i]? = some s := by rw [List.getElem?_set_ne hji]; exact d1
            obtain ⟨I11, s1, H11, s3⟩ := ps_set p2x hsi d2 z6 hTR'
            obtain ⟨B5, J5, m1, m2, m3, m4, m5, m6, m7, m8, m9, m10⟩ := ps_rnode H11 (by omega) (by omega) 44 (nI (sg n i)) (nI (sg n j)) 0
            have H6 := ps_49 m2 49 (by omega) (nI (1400 * h + md))
            have hC6 : CR I7 (a_u2 B5 186 49 (nI (1400 * h + md))) J5 bs t3 r3 := CR_B d9 (fun j _ _ => by rw [a_u2_n _ _ (by omega), m9 _ _ (by omega) (by omega), a_u2_n _ _ (by omega)]) (funext fun j => by rw [a_u2_n _ _ (by omega), m9 _ _ (by omega) (by omega), a_u2_n _ _ (by omega)]) (by rw [m10 _ _ (by omega), a_u2_n _ _ (by omega)])
            obtain ⟨u9, r9, I8b, B9, J9, w1, w2, w3, w4, w5, w6, w7⟩ := jadv hC6 (by omega)
            have eI : I8b = I8 := Option.some.inj (w2.symm.trans k3)
            subst eI
            have htl2 : tl t3.1 = 1 := by rw [q2]; decide
            rw [htl2] at w5
            have fI : ∀ q, ¬ (136 ≤ q ∧ q ≤ 141) → ¬ (k + 47 ≤ q ∧ q ≤ k + 58) → I11 q = I8b q := fun q w1 w2 => by rw [s3 q (by omega), p3x q (by omega), x3 q (by omega)]
            have hC9 : CR I11 B9 J9 bs u9 r9 := CR_I w4 (fI 6 (by omega) (by omega)) (fI 9 (by omega) (by omega)) (fI 10 (by omega) (by omega)) (fI 11 (by omega) (by omega))
            have HF := ps_cur H6 (cf_rfl (I := I11)) w7 (P' := u9.2.2) (by omega)
            have hng := ng_51 hnod d11 (nI j)
            have hg := ng_g hnod hng
            refine ⟨I11, 1, B9, J9, ?_, ?_, Or.inr ⟨rfl, sg_of hnod hng hC9 HF (by omega) (by omega) (by rw [hLs _ (by omega), d12 _ (by omega)]; omega) (by omega) (by omega) (by rw [hLs _ (by omega), d12 _ (by omega)]; omega) (u := 1400 * h + md) (by rw [w7.1 _ _ (by omega), a_u2_s]) (by omega) (by omega) (by rw [w7.1 _ _ (by omega), a_u2_n _ _ (by omega)]; exact m6) ⟨by omega, by omega, ⟨Nat.le_refl _, by omega⟩, Or.inr (Or.inr (Or.inr (Or.inl ⟨i, j, s.2.2.2.1, t1, t2, by rw [w7.1 _ _ (by omega), a_u2_n _ _ (by omega)]; exact m3, hg.1, by rw [w7.1 _ _ (by omega), a_u2_n _ _ (by omega)]; exact m4, hg.2.1, by rw [gm_get d1, d2], by rw [hLs _ (by omega), d12 _ (by omega), d4]; exact d6, by rw [hLs _ (by omega)]; exact z3, ⟨by rw [hLs _ (by omega)]; exact z4, by have w1 := (tr_u z8).2.2; omega⟩, by omega, hji, by rw [gm_get j1, j2, et], by rw [w7.1 _ _ (by omega), a_u2_n _ _ (by omega)]; exact m5, hg.2.2.1, by rw [gm_set, gm_set]⟩)))⟩ (d16.trans ((cf_cQ w6).trans (fun c w1 w2 w3 => fI c (by omega) (by omega)))) (((((d17.trans (rP_206 (sg n j) 0) (Nat.le_refl md) (Nat.le_refl nest)).trans (rP_209 (sg n i) (nI u2)) (Nat.le_refl md) (Nat.le_refl nest)).trans (rS_rP m8) (Nat.le_refl md) (Nat.le_refl nest)).trans (rP_sc (by omega) _) (Nat.le_refl md) (Nat.le_refl nest)).trans (rf_rP w7) (Nat.le_refl md) (Nat.le_refl nest)) (by repeat (first | exact lk_rfl | apply lk_6 | apply lk_8 | apply lk_0))⟩⟩
            · rw [eC2]
              unfold mX3_readSent_48 mX3_readSent_63 mX3_readSent_76
              rw [if_pos (by rw [et]), if_neg (nI_ne0 (by omega) (by omega)), x1, sb, sb]
              show ((mX4_put (k + 51) I9 (nI (L (k + 47)).length) (nI j)).bind fun q12 => mX3_readTalk_229 q12 F 305 x2 (nI (L (k + 47)).length) (nI i) (nI s.2.2.2.1) (gI (L (k + 6)) s.2.2.2.1)) = _
              rw [p1x, sb]
              unfold mX3_readTalk_229
              rw [← d12 (k + 6) (by omega), z4, s1, sb]
            · rw [jc, c128, y1, cl28 hu.1, z2, m1, sb]
              show (((mX12_look0 (a_u2 B5 186 49 (nI (1400 * h + md))) J5).bind fun q6 => some (1, q6.1, q6.2)).bind fun q13 => if q13.1 = 0 ∨ q13.1 = 1 then some (q13.1, q13.2.1, q13.2.2) else none) = _
              rw [w3, sb, sb, if_pos (Or.inr rfl)]
        · obtain ⟨I9, B9, a1, a2, a3⟩ := jbad2 d9 hR8 (cr_9 k4) (cf_FX k7) h (f := 3) (by decide) (nI t3.2.2)
          obtain ⟨I', b1, b2⟩ := fin (fail_PL a3 (ps_scp d10) (by omega)) (fun f p hf => pf_63s hf (nI t1) (nI t3.2.2) (nI j) (nI sj.2.2.2.1))
          refine ⟨I', 0, B9, J3, ?_, ?_, Or.inl ⟨rfl, b2⟩⟩
          · rw [eC2]
            unfold mX3_readSent_48
            rw [if_neg (fun z => et ((nI_eq (by omega) (by omega)).mp z)), a1, sb]
            exact b1
          · rw [if_neg et, if_pos rfl, cr_4 d9, a2, sb, if_pos (Or.inl rfl), sb, if_pos (Or.inl rfl)]
end
