/-! GET AND TAKE: a place joins (pure) -/
theorem a_u2_comm {α : Type} (f : Nat → Nat → α) {a j b i : Nat} (x y : α) (h : ¬ (a = b ∧ j = i)) : a_u2 (a_u2 f a j x) b i y = a_u2 (a_u2 f b i y) a j x := by
  funext p q
  by_cases h1 : p = a ∧ q = j
  · obtain ⟨rfl, rfl⟩ := h1
    rw [a_u2_s, a_u2_n _ _ h, a_u2_s]
  · by_cases h2 : p = b ∧ q = i
    · obtain ⟨rfl, rfl⟩ := h2
      rw [a_u2_s, a_u2_n _ _ h1, a_u2_s]
    · rw [a_u2_n _ _ h2, a_u2_n _ _ h1, a_u2_n _ _ h1, a_u2_n _ _ h2]
section
variable {k h M n : Nat} {D : List Df} {F : fT} {I B : iT} {J : jT} {L : lT} {bs : List Nat} {t : Tok} {r : List Tok} {P md nest wd b z : Nat} {S : List Sl} {a6 a8 a0 : List Int32}
theorem rf_rfl : rf B J B J := ⟨fun _ _ _ => rfl, fun _ _ _ => rfl⟩
theorem cf_rfl : cf I I := fun _ _ _ => rfl
theorem gt_ok (hC : CR I B J bs t r) (H : PS k h M n D F I B J L t.2.2 md nest S a6 a8 a0 wd b 4) (hmd : md + 1 ≤ t.2.2) (hS1 : S.length + 1 ≤ 5 + wd) {i : Nat} {s : Sl} (hs : S[i]? = some s) (h2 : s.1 = 2) {u' t' p' : Nat} (hp' : p' ≤ 200) (hTR : TR k L B J (fun v => 1400 * h ≤ v ∧ v < M) p' u' t' p') {c1 cu ct cp : Nat} (hc : c1 = 1 ∨ (c1 = 2 ∧ cp ≤ 200 ∧ TR k L B J (fun v => 1400 * h ≤ v ∧ v < M) cp cu ct cp)) (yr : Int32) (hyr : c1 = 2 → yr = nI cu) {κ : Nat} (hκ : κ < 2 ^ 31) (code : Int32) :
    (∃ x I' B', mX3_readFreshThing I = some (x, I') ∧ mX12_isFree B J = some (0, B') ∧ PL k h b I B J I' B' J) ∨
    (∃ I8 I9 I10 I11 B4 J4 B5 J5 B8 J8 t8 r8 b6 b8 b0, mX12_isFree B J = some (1, B) ∧ mX3_readFreshThing I = some (nI (cN t.2.1), I8) ∧ (∀ q, q ≠ 6 → I8 q = I q) ∧ mX5_add I8 (nI (cN t.2.1)) (if c1 = 2 then nI ct else -1) = some (nI S.length, I9) ∧ mX4_put (k + 51) I9 (nI κ) (nI S.length) = some I10 ∧ mX5_setTalk I10 (nI i) (nI t') = some I11 ∧ mX12_newSlot (a_u2 B 209 (sg n i) (nI u')) J (J 186 6) (if c1 = 1 then 0 else 2) yr = some (nI S.length, B4, J4) ∧ mX12_node B4 J4 code (nI (sg n i)) (nI S.length) 0 = some (nI (1400 * h + md), B5, J5) ∧ mX12_look0 (a_u2 B5 186 49 (nI (1400 * h + md))) J5 = some (B8, J8) ∧ CR I11 B8 J8 bs t8 r8 ∧ PS k h M n D F I11 B8 J8 (upL L (k + 51) ((L (k + 51)).set κ (nI S.length))) t8.2.2 (md + 1) nest ((S ++ [(c1, t.2.1, cu, ct, cp)]).set i (2, s.2.1, u', t', p')) b6 b8 b0 wd b 4 ∧ B8 186 49 = nI (1400 * h + md) ∧ B8 188 (1400 * h + md) = code ∧ B8 189 (1400 * h + md) = nI (sg n i) ∧ B8 190 (1400 * h + md) = nI S.length ∧ B8 191 (1400 * h + md) = -1 ∧ t.2.2 + 1 ≤ t8.2.2 ∧ cQ k I I11 ∧ rP h md nest B J B8 J8 ∧ LK nest a6 a8 a0 b6 b8 b0) := by
  have hk0 := H.1.1.1
  have hbb := H.2.2.2.2.2.2.2.2
  have hh := H.1.2.2.2.2.1.1
  have hsr0 := H.1.2.2.2.2.2.1
  have hil : i < S.length := (List.getElem?_eq_some_iff.mp hs).1
  have hsg := sg_lt hsr0.2.1.2.2.2.1 hil
  have hsl := hsr0.2.1.2.2.2.2.2.1
  rcases jfree hC H.1 (ps_scp H) (by omega) with hf | ⟨u, r', I8, B8', J8', f1, f2, f3, f4, f5, f6, f7, f8, f9, f10, f11, f12, f13⟩
  · exact Or.inl hf
  · right
    have hP := cr_end f10
    have H8 := ps_cur H f12 (rf_rfl (B := B) (J := J)) (Nat.le_refl _)
    obtain ⟨I9, B4, J4, x1, x2, x3, x4, x5, x6⟩ := ps_add H8 (s := (c1, t.2.1, cu, ct, cp)) f2 f3 hS1 hc yr hyr
    obtain ⟨I10, p1, p2, p3⟩ := ps_put x3 (a := k + 51) (by omega) (j := κ) hκ (nI S.length)
    have hs' : (S ++ [(c1, t.2.1, cu, ct, cp)])[i]? = some s := by rw [List.getElem?_append_left hil]; exact hs
    have hnew := newSlot_ok (B := B) (J := J) hsr0.2.1.2.2.2.2.2.2 (by omega) (lN (rN t.2.1)) (if c1 = 1 then 0 else 2) yr
    have eB4 : B4 = a_u2 (a_u2 (a_u2 B 208 S.length (if c1 = 1 then 0 else 2)) 209 S.length yr) 186 43 (nI (S.length + 1)) := congrArg (fun y : Int32 × iT × jT => y.2.1) (Option.some.inj (x2.symm.trans hnew))
    have eJ4 : J4 = a_u2 J 206 S.length (lN (rN t.2.1)) := congrArg (fun y : Int32 × iT × jT => y.2.2) (Option.some.inj (x2.symm.trans hnew))
    have hLs : ∀ a, a ≠ k + 51 → upL L (k + 51) ((L (k + 51)).set κ (nI S.length)) a = L a := fun a w => upL_n _ _ w
    have hTR' : TR k (upL L (k + 51) ((L (k + 51)).set κ (nI S.length))) B4 J4 (fun v => 1400 * h ≤ v ∧ v < M) p' u' t' p' := tr_to H.1.2.2.1 (TE_eq (fun a q1 q2 => hLs a (by omega))) (fun v _ => ⟨x5 _ _ (by omega) (by omega), x5 _ _ (by omega) (by omega), x5 _ _ (by omega) (by omega), x5 _ _ (by omega) (by omega), x6 _ _ (by omega)⟩) (fun v hv => hv) _ _ _ _ _ (Nat.le_refl _) hTR
    obtain ⟨I11, s1, H11, s3⟩ := ps_set p2 hs' h2 hp' hTR'
    obtain ⟨B5, J5, m1, m2, m3, m4, m5, m6, m7, m8, m9, m10⟩ := ps_rnode H11 (by omega) hmd code (nI (sg n i)) (nI S.length) 0
    have H6 := ps_49 m2 49 (by omega) (nI (1400 * h + md))
    have hC6 : CR I (a_u2 B5 186 49 (nI (1400 * h + md))) J5 bs t r := CR_B hC (fun j _ _ => by rw [a_u2_n _ _ (by omega), m9 _ _ (by omega) (by omega), a_u2_n _ _ (by omega), x5 _ _ (by omega) (by omega)]) (funext fun j => by rw [a_u2_n _ _ (by omega), m9 _ _ (by omega) (by omega), a_u2_n _ _ (by omega), x5 _ _ (by omega) (by omega)]) (by rw [m10 _ _ (by omega), x6 _ _ (by omega)])
    obtain ⟨u2, r2, I8b, B8, J8, z1, z2, z3, z4, z5, z6, z7⟩ := jadv hC6 (by omega)
    have eI : I8b = I8 := Option.some.inj (z2.symm.trans f8)
    subst eI
    have htl : tl t.1 = 1 := by rw [f1]; decide
    rw [htl] at z5
    have fI : ∀ q, ¬ (136 ≤ q ∧ q ≤ 141) → ¬ (k + 47 ≤ q ∧ q ≤ k + 58) → I11 q = I8b q := fun q w1 w2 => by rw [s3 q (by omega), p3 q (by omega), x4 q (by omega)]
    have hC11 : CR I11 B8 J8 bs u2 r2 := CR_I z4 (fI 6 (by omega) (by omega)) (fI 9 (by omega) (by omega)) (fI 10 (by omega) (by omega)) (fI 11 (by omega) (by omega))
    have HF := ps_cur H6 (cf_rfl (I := I11)) z7 (P' := u2.2.2) (by omega)
    have r4 : rP h md nest B J B4 J4 := ⟨fun c j w1 w2 w3 w4 => x5 c j (by omega) (by omega), fun c j w1 w2 w3 w4 => x6 c j w3⟩
    refine ⟨I8b, I9, I10, I11, a_u2 B4 209 (sg n i) (nI u'), J4, B5, J5, B8, J8, u2, r2, _, _, _, f6, f5, fun q w => cf_b f12 w, x1, p1, s1, ?_, m1, z3, hC11, HF, by rw [z7.1 _ _ (by omega), a_u2_s], by rw [z7.1 _ _ (by omega), a_u2_n _ _ (by omega)]; exact m3, by rw [z7.1 _ _ (by omega), a_u2_n _ _ (by omega)]; exact m4, by rw [z7.1 _ _ (by omega), a_u2_n _ _ (by omega)]; exact m5, by rw [z7.1 _ _ (by omega), a_u2_n _ _ (by omega)]; exact m6, z5, fun c w1 w2 w3 => by rw [fI c (by omega) (by omega), cf_b f12 w1], (((r4.trans (rP_209 (sg n i) (nI u')) (Nat.le_refl md) (Nat.le_refl nest)).trans (rS_rP m8) (Nat.le_refl md) (Nat.le_refl nest)).trans (rP_sc (by omega) _) (Nat.le_refl md) (Nat.le_refl nest)).trans (rf_rP z7) (Nat.le_refl md) (Nat.le_refl nest), by repeat (first | exact lk_rfl | apply lk_6 | apply lk_8 | apply lk_0)⟩
    have hm' : (a_u2 B 209 (sg n i) (nI u')) 186 43 = nI S.length := by rw [a_u2_n _ _ (by omega)]; exact hsr0.2.1.2.2.2.2.2.2
    rw [f7, newSlot_ok hm' (by omega), eB4, eJ4, a_u2_comm B _ _ (by omega), a_u2_comm _ (a := 209) (j := sg n i) _ _ (by omega), a_u2_comm _ (a := 209) (j := sg n i) _ _ (by omega)]
theorem set_app {α : Type} {l : List α} {i : Nat} (h : i < l.length) (x y : α) : (l ++ [x]).set i y = l.set i y ++ [x] := List.set_append_left i y h
theorem st_get (R : sc_12actT) (hC : CR I B J bs t r) (H : PS k h M n D F I B J L t.2.2 md nest S a6 a8 a0 wd b 0) (hS1 : S.length + 1 ≤ 5 + wd) (q : t.1 = 304) (x2 : Int32) : SO k h M n D F I B J L bs t.2.2 md nest S a6 a8 a0 wd b (mX3_readTalk I F 304 x2) (bX12_act R B J 104) := by
  have hk0 := H.1.1.1
  have hF := H.2.1.1
  have hnod := H.2.2.1
  have bb := H.1.2.2.2.2.2.2.2
  have bn := H.2.2.2.2.2.1
  have hbb := H.2.2.2.2.2.2.2.2
  have htl : tl 304 = 3 := by decide
  have hh := H.1.2.2.2.2.1.1
  have hlen : (L (k + 47)).length < 2 ^ 31 := by
    have := cr_end hC
    omega
  obtain ⟨B2, J2, e3, HO⟩ := tk_ok hC H (w := 304) (gc := 3) (hc := 2) (gk := 63) (hk := 33) (Or.inr (Or.inr (Or.inr (Or.inl ⟨rfl, rfl, rfl, rfl, rfl⟩)))) q x2
  have eR : bX12_act R B J 104 = (mX12_aChannel B2 J2 3 2).bind fun q8 => if q8.1 = 0 then some (0, q8.2.1, q8.2.2) else (mX12_isFree q8.2.1 q8.2.2).bind fun q9 => if q9.1 = 0 then some (0, q9.2, q8.2.2) else if inb (q9.2 186 48) 128 then if inb (q9.2 209 (q9.2 186 48).toNatClampNeg) 2800 then if inb (q9.2 186 48) 128 then (mX12_newSlot (a_u2 q9.2 209 (q9.2 186 48).toNatClampNeg (q9.2 189 (q9.2 209 (q9.2 186 48).toNatClampNeg).toNatClampNeg)) q8.2.2 (q8.2.2 186 6) 0 (-1)).bind fun q10 => (mX12_node q10.2.1 q10.2.2 43 ((a_u2 q9.2 209 (q9.2 186 48).toNatClampNeg (q9.2 189 (q9.2 209 (q9.2 186 48).toNatClampNeg).toNatClampNeg)) 186 48) q10.1 0).bind fun q11 => (mX12_look0 (a_u2 q11.2.1 186 49 q11.1) q11.2.2).bind fun q12 => some (1, q12.1, q12.2) else none else none else none := by
    unfold bX12_act
    rw [if_neg (by decide), if_neg (by decide), e3, sb]
    rfl
  rw [eR]
  rcases HO with ⟨I', B3, J3, c1, c2, c3⟩ | ⟨i, s, kd, wc, I7, B3, J3, t3, r3, L7, d1, d2, d3, d4, d5, d6, d7, d8, d9, d10, d11, d12, d13, d14, d15, d16, d17⟩
  · exact ⟨I', 0, B3, J3, c1, by rw [c2, sb, if_pos rfl], Or.inl ⟨rfl, c3⟩⟩
  · have d7' : mX3_readTalk I F 304 x2 = (mX3_readFreshThing I7).bind fun q15 => (mX4_at (k + 1 + 3) q15.2 (nI s.2.2.2.1)).bind fun q16 => (mX5_add q15.2 q15.1 q16).bind fun q17 => (mX4_put (k + 51) q17.2 (nI (L (k + 47)).length) q17.1).bind fun q18 => mX3_readTalk_229 q18 F 304 x2 (nI (L (k + 47)).length) (nI i) (nI s.2.2.2.1) (gI (L (k + 6)) s.2.2.2.1) := by
      show mX3_readTalk I F (nI 304) x2 = _
      rw [d7]
      unfold tkR
      rw [if_neg (by decide), if_neg (by decide), if_neg (by decide), if_neg (by decide), hF]
      rfl
    have hsr := d10.1.2.2.2.2.2.1
    obtain ⟨y1, y2, y3⟩ := (hsr.2.2.1 i s d1).2.2.2.2 d2
    have hil : i < S.length := (List.getElem?_eq_some_iff.mp d1).1
    have hu := tr_u y3
    have hK := rs_K d10.1.1
    have hkd : kd = 63 ∨ kd = 33 := by
      unfold KW kw6 at d3
      by_cases z : i = 0
      · rw [if_pos z] at d6
        exact Or.inl ((nI_eq (a := kd) (b := 63) (by omega) (by omega)).mp d6)
      · rw [if_neg z] at d6
        exact Or.inr ((nI_eq (a := kd) (b := 33) (by omega) (by omega)).mp d6)
    obtain ⟨u1, t1, p1', z1, z2, z3, z4, z5⟩ := tr_one y3 y2 (by rw [d12 _ (by omega)]; exact d4) hkd.symm
    rw [d8, sb, if_neg i10]
    show SO k h M n D F I B J L bs t.2.2 md nest S a6 a8 a0 wd b _ ((mX12_isFree B3 J3).bind fun q9 => if q9.1 = 0 then some (0, q9.2, J3) else if inb (q9.2 186 48) 128 then if inb (q9.2 209 (q9.2 186 48).toNatClampNeg) 2800 then if inb (q9.2 186 48) 128 then (mX12_newSlot (a_u2 q9.2 209 (q9.2 186 48).toNatClampNeg (q9.2 189 (q9.2 209 (q9.2 186 48).toNatClampNeg).toNatClampNeg)) J3 (J3 186 6) 0 (-1)).bind fun q10 => (mX12_node q10.2.1 q10.2.2 43 ((a_u2 q9.2 209 (q9.2 186 48).toNatClampNeg (q9.2 189 (q9.2 209 (q9.2 186 48).toNatClampNeg).toNatClampNeg)) 186 48) q10.1 0).bind fun q11 => (mX12_look0 (a_u2 q11.2.1 186 49 q11.1) q11.2.2).bind fun q12 => some (1, q12.1, q12.2) else none else none else none)
    have hP3 := cr_end d9
    rcases gt_ok d9 d10 (by omega) hS1 d1 d2 z4 z5 (c1 := 1) (cu := 0) (ct := 0) (cp := 0) (Or.inl rfl) (-1) (fun z => (by cases z)) hlen 43 with ⟨x, I8, B4, f1, f2, f3⟩ | ⟨I8, I9, I10, I11, B4, J4, B5, J5, B8, J8, t8, r8, b6, b8, b0, f1, f2, f3, f4, f5, f6, f7, f8, f9, f10, f11, f12, f13, f14, f15, f16, f17, f18, f19⟩
    · obtain ⟨I', a1, a2⟩ := pfu_PL (PL.pre (cQ_FQ d16) (rP_RX d17) f3) (c' := b + 1) (o := (mX4_at (k + 1 + 3) I8 (nI s.2.2.2.1)).bind fun q16 => (mX5_add I8 x q16).bind fun q17 => (mX4_put (k + 51) q17.2 (nI (L (k + 47)).length) q17.1).bind fun q18 => mX3_readTalk_229 q18 F 304 x2 (nI (L (k + 47)).length) (nI i) (nI s.2.2.2.1) (gI (L (k + 6)) s.2.2.2.1)) (fun f p hf => pfu_r (fm_at hf.1 (a := k + 1 + 3) (by unfold rowA; omega) _) (fun v => pfu_o (pf_add hf (by omega) _ _) (fun x2 I2 h2 => pfu_u (pf_putB h2 (by unfold rowB; omega) _ _) (fun I3 h3 => pf_229 h3 _ _ _ _ _ _))))
      exact ⟨I', 0, B4, J3, by rw [d7', f1, sb]; exact a1, by rw [f2, sb, if_pos rfl], Or.inl ⟨rfl, a2⟩⟩
    · have hng := ng_51 hnod d11 (nI S.length)
      have hg := ng_g hnod hng
      have hRS8 : RS I8 k L7 := rs_keep d10.1.1 (fun a ha => by
        unfold rowA at ha
        exact ⟨f3 a (by omega), f3 (a + 1) (by omega)⟩)
      have e4 : mX4_at (k + 1 + 3) I8 (nI s.2.2.2.1) = some (-1) := by
        have := rs_g hRS8 (a := k + 4) (by unfold rowA; omega) (j := s.2.2.2.1) (by omega)
        rw [z2] at this
        exact this
      have hLs : ∀ a, a ≠ k + 51 → upL L7 (k + 51) ((L7 (k + 51)).set (L (k + 47)).length (nI S.length)) a = L7 a := fun a w => upL_n _ _ w
      refine ⟨I11, 1, B8, J8, ?_, ?_, Or.inr ⟨rfl, sg_of hnod hng f10 f11 (by omega) (by omega) (by rw [hLs _ (by omega), d12 _ (by omega)]; omega) (by omega) (by omega) (by rw [hLs _ (by omega), d12 _ (by omega)]; omega) f12 (by omega) (by omega) f16 ⟨by omega, by omega, ⟨Nat.le_refl _, by omega⟩, Or.inr (Or.inr (Or.inl ⟨i, s.2.2.2.1, t1, f13, hg.1, f14, hg.2.1, by rw [gm_get d1, d2], by rw [hLs _ (by omega), d12 _ (by omega), d4]; exact d6, ⟨by rw [hLs _ (by omega)]; exact z3, by have w1 := (tr_u z5).2.2; omega⟩, ⟨by rw [gm_len]; exact f15, by have w80 := H.2.2.2.2.1.2.2.1; rw [gm_len]; omega⟩, by rw [gm_len]; exact hg.2.2.1, by rw [gm_set, gm_app, set_app (by rw [gm_len]; exact hil)]⟩))⟩ (d16.trans f18) (d17.trans f19.1 (Nat.le_refl md) (Nat.le_refl nest)) f19.2⟩⟩
      · rw [d7', f2, sb]
        show ((mX4_at (k + 1 + 3) I8 (nI s.2.2.2.1)).bind fun q16 => (mX5_add I8 (nI (cN t3.2.1)) q16).bind fun q17 => (mX4_put (k + 51) q17.2 (nI (L (k + 47)).length) q17.1).bind fun q18 => mX3_readTalk_229 q18 F 304 x2 (nI (L (k + 47)).length) (nI i) (nI s.2.2.2.1) (gI (L (k + 6)) s.2.2.2.1)) = _
        rw [if_neg (by decide)] at f4
        rw [e4, sb, f4, sb]
        show ((mX4_put (k + 51) I9 (nI (L (k + 47)).length) (nI S.length)).bind fun q18 => mX3_readTalk_229 q18 F 304 x2 (nI (L (k + 47)).length) (nI i) (nI s.2.2.2.1) (gI (L (k + 6)) s.2.2.2.1)) = _
        rw [f5, sb]
        unfold mX3_readTalk_229
        rw [← d12 (k + 6) (by omega), z3, f6, sb]
      · rw [f1, sb, if_neg i10]
        have c128 := cl128 (show sg n i < 128 by omega)
        have i128' : inb (nI (sg n i)) 128 := in128 (by omega)
        have iu := in28 hu.1
        have iu2 : inb (B3 209 (nI (sg n i)).toNatClampNeg) 2800 := by rw [c128, y1]; exact iu
        show (if inb (B3 186 48) 128 then if inb (B3 209 (B3 186 48).toNatClampNeg) 2800 then if inb (B3 186 48) 128 then (mX12_newSlot (a_u2 B3 209 (B3 186 48).toNatClampNeg (B3 189 (B3 209 (B3 186 48).toNatClampNeg).toNatClampNeg)) J3 (J3 186 6) 0 (-1)).bind fun q10 => (mX12_node q10.2.1 q10.2.2 43 ((a_u2 B3 209 (B3 186 48).toNatClampNeg (B3 189 (B3 209 (B3 186 48).toNatClampNeg).toNatClampNeg)) 186 48) q10.1 0).bind fun q11 => (mX12_look0 (a_u2 q11.2.1 186 49 q11.1) q11.2.2).bind fun q12 => some (1, q12.1, q12.2) else none else none else none) = _
        rw [a_u2_n _ _ (by omega), d13, if_pos i128', if_pos iu2, if_pos i128', c128, y1, cl28 hu.1, z1]
        rw [if_pos rfl] at f7
        rw [f7, sb]
        show ((mX12_node B4 J4 43 (nI (sg n i)) (nI S.length) 0).bind fun q11 => (mX12_look0 (a_u2 q11.2.1 186 49 q11.1) q11.2.2).bind fun q12 => some (1, q12.1, q12.2)) = _
        rw [f8, sb]
        show ((mX12_look0 (a_u2 B5 186 49 (nI (1400 * h + md))) J5).bind fun q12 => some (1, q12.1, q12.2)) = _
        rw [f9, sb]
end
