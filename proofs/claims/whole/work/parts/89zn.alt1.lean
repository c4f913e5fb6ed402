/-! ONE ALTERNATIVE OF A case, in both (pure) -/
section
variable {k : Nat} {f p : Int32} {b : Nat} {I : iT} {F : fT} {Rc : sc_3readAlternativeT}
theorem pf_113 (hF : F 134 4 = k) (hcc : ∀ f p b I x, PF k f p b I → Rc.2.2.2.2 I F x = some (-1, I)) (hp : PF k f p b I) (x1 x2 x3 x4 x5 x6 x7 : Int32) : PFo k f p b I (mX3_readAlternative_113 Rc I F x1 x2 x3 x4 x5 x6 x7) := by
  have hk := pf_k hp
  unfold mX3_readAlternative_113
  rw [fm_want hp.1 (by decide), sb, hF]
  refine pfo_r (fm_size hp.1 (by unfold rowA; omega)) (fun v => pfo_u (pf_putB hp (by unfold rowB; omega) _ _) (fun I1 h1 => pfo_u (pf_enter h1) (fun I2 h2 => ?_)))
  obtain ⟨L, hL⟩ := h2.1.1
  refine pfo_r (bt_any hL _ _) (fun v2 => pfo_u (pf_setTalk h2 _ _) (fun I3 h3 => ?_))
  rw [hcc f p b I3 _ h3, sb]
  exact pfo_u (pf_leave h3) (fun I4 h4 => pfo_ret h4 _)
/-- the class behind the NAME of an alternative -/
def alR (Rc : sc_3readAlternativeT) (k : Nat) (I : iT) (F : fT) (x1 x2 q9 q10 pl y : Int32) : Option (Int32 × iT) := (mX10_findBranch (k + 1) I q10 y).bind fun q12 => (mX4_at (k + 51) I x1).bind fun q13 => if q12 = ((-1)) then (mX2_refuse I 3 pl).bind fun q16 => mX3_readAlternative_113 Rc q16 F x1 x2 q9 q10 pl q12 (q13 + q12) else (mX4_at (k + 57) I (q13 + q12)).bind fun q14 => if q14 = ((-1)) then mX3_readAlternative_113 Rc I F x1 x2 q9 q10 pl q12 (q13 + q12) else (mX2_refuse I 2 pl).bind fun q15 => mX3_readAlternative_113 Rc q15 F x1 x2 q9 q10 pl q12 (q13 + q12)
theorem pf_alR (hF : F 134 4 = k) (hcc : ∀ f p b I x, PF k f p b I → Rc.2.2.2.2 I F x = some (-1, I)) (hp : PF k f p b I) (hT : TB k I) (x1 x2 q9 q10 pl y : Int32) : PFo k f p b I (alR Rc k I F x1 x2 q9 q10 pl y) := by
  have hk := pf_k hp
  obtain ⟨L, hL, hL2⟩ := hT
  unfold alR
  refine pfo_r (fb_any hL hL2 _ _) (fun v => pfo_r (fm_at hp.1 (by unfold rowA; omega) _) (fun v2 => ?_))
  rw [fm_refuse hp.1, sb]
  refine pfo_if (pf_113 hF hcc hp _ _ _ _ _ _ _) (pfo_r (fm_at hp.1 (by unfold rowA; omega) _) (fun v3 => ?_))
  rw [fm_refuse hp.1, sb]
  exact pfo_if (pf_113 hF hcc hp _ _ _ _ _ _ _) (pf_113 hF hcc hp _ _ _ _ _ _ _)
end
/-- the reference links an alternative -/
def csL (R : sc_12actT) (K : iT → jT → Int32 → Int32 → Int32 → Int32 → Int32 → Int32 → Option (Int32 × iT × jT)) (B : iT) (J : jT) (x1 x2 x3 x4 x5 x6 q6 q7 : Int32) : Option (Int32 × iT × jT) := if inb q7 2800 then if x6 = ((-1)) then if inb x3 2800 then mX12_cases_273 R (K) (a_u2 (a_u2 B 189 q7.toNatClampNeg (B 186 49)) 190 x3.toNatClampNeg q7) J x1 x2 x3 x4 x5 x6 q6 q7 else none else if inb x6 2800 then mX12_cases_273 R (K) (a_u2 (a_u2 B 189 q7.toNatClampNeg (B 186 49)) 191 x6.toNatClampNeg q7) J x1 x2 x3 x4 x5 x6 q6 q7 else none else none
section
variable {k h M n : Nat} {D : List Df} {F : fT} {I B : iT} {J : jT} {L : lT} {bs : List Nat} {t : Tok} {r : List Tok} {P md nest wd b z : Nat} {S : List Sl} {a6 a8 a0 c6 c8 c0 : List Int32}
theorem alt_ok {Rc : sc_3readAlternativeT} {R : sc_12actT} {K : iT → jT → Int32 → Int32 → Int32 → Int32 → Int32 → Int32 → Option (Int32 × iT × jT)} (hP : HP k h M n D F bs b (nest + 1) Rc.2.2.2.2 R.2.2.2) (hcc : ∀ f p b I x, PF k f p b I → Rc.2.2.2.2 I F x = some (-1, I)) (hC : CR I B J bs t r) (H : PU k h M n D F I B J L t.2.2 md (nest + 1) nest S a6 a8 a0 wd b) (hok : SOK k h M L B J n nest S) (hv : SV B J n (nest + 1) S) (hmd : md + 1 ≤ t.2.2)
    {i : Nat} {s : Sl} (hs : S[i]? = some s) (hs2 : s.1 = 2) {kd f : Nat} {brs : List Br} (hcho : CHO k L B J (fun v => 1400 * h ≤ v ∧ v < M) s.2.2.1 s.2.2.2.1 f brs) (hk : gI (L (k + 2)) s.2.2.2.1 = nI kd) (hkd : kd = 43 ∨ kd = 38)
    {κ a uk : Nat} (hκ : κ < 2 ^ 31) (e49 : gI (L (k + 49)) κ = nI i) (e51 : gI (L (k + 51)) κ = nI a) (ha : a + brs.length ≤ (L (k + 55)).length) (huk : uk < 2800) {Q : Nat → Prop} {bl : List Alt} (hbl : altR B J Q (B 190 uk) bl) (hbl6 : bl.length < LF) (hbN : ∀ e ∈ bl, isN e.2.2.1 ∧ ∃ (j : Nat) (e' : Br), brs[j]? = some e' ∧ e'.2.1 = e.2.2.1) (hus : ∀ (j : Nat) (e' : Br), brs[j]? = some e' → (gI (L (k + 57)) (a + j) = -1 ↔ ∀ e ∈ bl, e.2.2.1 ≠ e'.2.1)) (x6 : Int32) :
    (∃ x I' B' J', bX3_readAlternative Rc I F (nI κ) (nI (nest + 1)) = some (x, I') ∧ mX12_cases_77 R K B J (nI (sg n i)) (nI s.2.2.1) (nI uk) (nI (nest + 1)) (nI S.length) x6 = some (0, B', J') ∧ PL k h (b + 1) I B J I' B' J') ∨
    (∃ j e l I' B' J' t' r' L' md' d6 d8 d0 wd' u m, brs[j]? = some e ∧ isN e.2.1 ∧ gI (L (k + 57)) (a + j) = -1 ∧ bX3_readAlternative Rc I F (nI κ) (nI (nest + 1)) = some (nI l, I') ∧ mX12_cases_77 R K B J (nI (sg n i)) (nI s.2.2.1) (nI uk) (nI (nest + 1)) (nI S.length) x6 = csL R K B' J' (nI (sg n i)) (nI s.2.2.1) (nI uk) (nI (nest + 1)) (nI S.length) x6 (nI e.1) (nI (1400 * h + md)) ∧ CR I' B' J' bs t' r' ∧ PU k h M n D F I' B' J' L' t'.2.2 md' (nest + 1) nest S d6 d8 d0 wd' b ∧ B' 186 49 = nI u ∧ J' 192 (1400 * h + md) = lN (rN e.2.1) ∧ B' 191 (1400 * h + md) = -1 ∧ PR k n D L' B' J' (fun v => 1400 * h + (md + 1) ≤ v ∧ v < 1400 * h + md') (fun κ => (L (k + 47)).length ≤ κ ∧ κ < (L' (k + 47)).length) (fun c => (L (k + 55)).length ≤ c ∧ c < (L' (k + 55)).length) m u (L (k + 47)).length l ((gm S).set i (2, e.2.2.2.1)) ∧ (m + (L (k + 47)).length ≤ (L' (k + 47)).length ∧ l ≤ m) ∧ wd + l ≤ wd' ∧ PGr k (upL L (k + 57) ((L (k + 57)).set (a + j) (nI (L (k + 47)).length))) L' (t.2.2 + 2) t'.2.2 (md + 1) md' ∧ cW k I I' ∧ rP h md (nest + 1) B J B' J' ∧ (∀ c v, 188 ≤ c → c ≤ 191 → v < 1400 * h + md → B' c v = B c v) ∧ (∀ v, v < 1400 * h + md → J' 192 v = J 192 v) ∧ LK (nest + 1) a6 a8 a0 d6 d8 d0) := by
  have hk0 := H.1.1
  have hF := H.2.1.2
  have hbb := H.2.2.2.2.2.2.2.2.2.2.2.2
  have hcp := H.2.2.2.2.2.2.2.1.1
  have hnest := H.2.2.2.2.2.2.2.2.1.2
  have hh := H.2.2.2.2.2.2.1
  have hbud := H.2.2.2.2.2.2.2.2.2.2.1
  have hP0 := cr_end hC
  have hT := H.2.2.1
  have hil : i < S.length := (List.getElem?_eq_some_iff.mp hs).1
  have hsgl := sg_lt hok.2.1 hil
  have hS85 := hok.2.2.2.1
  have hK := rs_K H.1
  have hcl : s.2.2.1 < 2800 ∧ s.2.2.2.1 < (L (k + 2)).length := ⟨hcho.1, hcho.2.1⟩
  have h10 := len10 H.1
  have hb6 := hcho.2.2.2.2.2.1
  have hfl := hcho.2.2.2.2.2.2.1
  have a49 : mX4_at (k + 49) I (nI κ) = some (nI i) := by rw [rs_g H.1 (by unfold rowA; omega) hκ, e49]
  have tlk : mX5_talkAt I (nI i) = some (nI s.2.2.2.1) := by rw [cp_talk hcp (by omega) hS85 hs, if_pos hs2]
  have eC : bX3_readAlternative Rc I F (nI κ) (nI (nest + 1)) = (mX2_takeName I).bind fun q11 => alR Rc k q11.2 F (nI κ) (nI (nest + 1)) (nI i) (nI s.2.2.2.1) (nI t.2.2) q11.1 := by
    unfold bX3_readAlternative
    rw [hF, a49, sb, tlk, sb, cr_8 hC]
    rfl
  have er : B 186 3 = 2 ↔ t.1 = 256 := cr_r hC 256 (by decide)
  have ec : I 6 6 = 256 ↔ t.1 = 256 := cr_c hC 256 (by omega)
  have in128 := in128 (show sg n i < 128 by omega)
  have c128 := cl128 (show sg n i < 128 by omega)
  by_cases q : t.1 = 256
  · have hwN : isN t.2.1 := (cr_wf hC).2.1 q
    have hval : I 6 7 = nI (cN t.2.1) := hC.1.2.2.1.1 q
    have hJ6 : J 186 6 = lN (rN t.2.1) := hC.2.1.2.2.2.1 q
    have htl : tl t.1 = 1 := by rw [q]; decide
    obtain ⟨u1, r1, I1, B1, J1, k1, k2, k3, k4, k5, k6, k7⟩ := jadv hC (by omega)
    have eT : mX2_takeName I = some (nI (cN t.2.1), I1) := by
      unfold mX2_takeName
      rw [if_pos (ec.mpr q), k2, sb, hval]
    have hR1 := cf_RS k6 H.1
    have e77 : mX12_cases_77 R K B J (nI (sg n i)) (nI s.2.2.1) (nI uk) (nI (nest + 1)) (nI S.length) x6 = mX12_cases_103 R K LF B J (nI (sg n i)) (nI s.2.2.1) (nI uk) (nI (nest + 1)) (nI S.length) x6 (B 190 uk) := by
      unfold mX12_cases_77
      rw [if_pos (er.mpr q), if_pos (in28 huk), congrArg (B 190) (cl28 huk)]
    have a51 : mX4_at (k + 51) I1 (nI κ) = some (nI a) := by rw [rs_g hR1 (by unfold rowA; omega) hκ, e51]
    rw [eC, eT, sb, e77]
    show (∃ x I' B' J', alR Rc k I1 F (nI κ) (nI (nest + 1)) (nI i) (nI s.2.2.2.1) (nI t.2.2) (nI (cN t.2.1)) = some (x, I') ∧ _ ∧ _) ∨ (∃ j e l I' B' J' t' r' L' md' d6 d8 d0 wd' u m, _ ∧ _ ∧ _ ∧ alR Rc k I1 F (nI κ) (nI (nest + 1)) (nI i) (nI s.2.2.2.1) (nI t.2.2) (nI (cN t.2.1)) = some (nI l, I') ∧ _)
    -- both refuse at the NAME
    have fin : ∀ {f : Int32} (x6' x7' : Int32), f ≠ 0 → ∃ x I' B', ((mX2_refuse I1 f (nI t.2.2)).bind fun q16 => mX3_readAlternative_113 Rc q16 F (nI κ) (nI (nest + 1)) (nI i) (nI s.2.2.2.1) (nI t.2.2) x6' x7') = some (x, I') ∧ rBad B J f (B 186 4) = some (0, B', J) ∧ PL k h (b + 1) I B J I' B' J := by
      intro f x6' x7' hf
      obtain ⟨I9, B9, b1, b2, b3⟩ := jbad2 hC hR1 (cr_9 k4) (cf_FX k6) h (f := f) hf (nI t.2.2)
      obtain ⟨x, I', d1, d2⟩ := pfo_PL ((fail_PL b3 (pu_scp H) (by omega)).mono (Nat.le_succ b) (by omega)) (c' := b + 1) (fun f p hf => pf_113 hF hcc hf (nI κ) (nI (nest + 1)) (nI i) (nI s.2.2.2.1) (nI t.2.2) x6' x7')
      exact ⟨x, I', B9, by rw [b1, sb]; exact d1, by rw [cr_4 hC]; exact rBad_ok b2, d2⟩
    rcases cho_find hR1 hcho hk hkd hwN with ⟨j, e, f1, f2, f3, f4⟩ | ⟨f1, f3, f4⟩
    · have hjl : j < brs.length := (List.getElem?_eq_some_iff.mp f1).1
      have hem : e ∈ brs := List.mem_of_getElem? f1
      have eaj : nI a + nI j = nI (a + j) := nI_add a j
      have hL55 : (L (k + 55)).length ≤ 500 := by omega
      have a57 : mX4_at (k + 57) I1 (nI (a + j)) = some (gI (L (k + 57)) (a + j)) := rs_g hR1 (by unfold rowA; omega) (by omega)
      have eAl : alR Rc k I1 F (nI κ) (nI (nest + 1)) (nI i) (nI s.2.2.2.1) (nI t.2.2) (nI (cN t.2.1)) = if gI (L (k + 57)) (a + j) = -1 then mX3_readAlternative_113 Rc I1 F (nI κ) (nI (nest + 1)) (nI i) (nI s.2.2.2.1) (nI t.2.2) (nI j) (nI (a + j)) else (mX2_refuse I1 2 (nI t.2.2)).bind fun q15 => mX3_readAlternative_113 Rc q15 F (nI κ) (nI (nest + 1)) (nI i) (nI s.2.2.2.1) (nI t.2.2) (nI j) (nI (a + j)) := by
        unfold alR
        rw [f3, sb, a51, sb, if_neg (nIm (by omega)), eaj, a57, sb]
      obtain ⟨ce1, ce2, ce3, ce4, ce5⟩ := chain_get brs _ hcho.2.2.2.2.2.2.2.1 e hem
      obtain ⟨y1, y2, y3, y4, y5, y6⟩ := hcho.2.2.2.2.2.2.2.2.2 j e f1
      rw [eAl]
      by_cases hu : gI (L (k + 57)) (a + j) = -1
      · -- it is new
        rw [if_pos hu, dup_no hwN hJ6 bl _ LF hbl hbl6 (fun x hx => ⟨(hbN x hx).1, fun z => (hus j e f1).mp hu x hx (by rw [z, f2])⟩)]
        obtain ⟨Bn, Jn, m1, Hn, m3, m4, m5, m6, m7, m8, m9, m10⟩ := pu_rnode H (by omega) hmd 53 (-1) (-1) (J 186 6)
        have hCn : CR I Bn Jn bs t r := CR_B hC (fun j _ _ => m9 _ _ (by omega) (by omega)) (funext fun j => m9 _ _ (by omega) (by omega)) (m10 _ _ (by omega))
        obtain ⟨u2, r2, I1b, B2, J2, l1, l2, l3, l4, l5, l6, l7⟩ := jadv hCn (by omega)
        have eI : I1b = I1 := Option.some.inj (l2.symm.trans k2)
        subst eI
        rw [htl] at l5
        have H2 := pu_cur Hn l6 l7 (P' := u2.2.2) (by omega)
        have rp2 : rP h md (nest + 1) B J B2 J2 := (rS_rP m8).trans (rf_rP l7) (Nat.le_refl md) (Nat.le_refl _)
        have eB : csB R K B J (nI (sg n i)) (nI s.2.2.1) (nI uk) (nI (nest + 1)) (nI S.length) x6 = (mX12_need B2 J2 58).bind fun q9 => if q9.1 = 0 then some (0, q9.2.1, q9.2.2) else (mX12_back (a_u2 q9.2.1 186 43 (nI S.length)) q9.2.2 (nI (nest + 1))).bind fun q10 => (R.2.2.2 (a_u2 q10.1 209 (sg n i) (q10.1 189 e.1)) q10.2).bind fun q11 => if q11.1 = 0 then some (0, q11.2.1, q11.2.2) else csL R K q11.2.1 q11.2.2 (nI (sg n i)) (nI s.2.2.1) (nI uk) (nI (nest + 1)) (nI S.length) x6 (nI e.1) (nI (1400 * h + md)) := by
          unfold csB csL
          rw [hJ6, f4, sb, if_neg (nIm (by omega)), ← hJ6, m1, sb]
          show ((mX12_look0 Bn Jn).bind _) = _
          rw [l3, sb]
          simp only [if_pos (in28 ce1), if_pos in128, c128, cl28 ce1]
        rw [eB]
        rcases jneed l4 H2.1 h 58 (by omega) with ⟨w1, u3, r3, I3, B3, J3, s1, s2, s3, s4, s5, s6, s7⟩ | ⟨w1, I3, B3, s2, s3, s4⟩
        · have htl3 : tl u2.1 = 1 := by rw [w1]; decide
          rw [htl3] at s5
          have H3 := pu_cur H2 s6 s7 (P' := u3.2.2) (by omega)
          have rp3 : rP h md (nest + 1) B J B3 J3 := rp2.trans (rf_rP s7) (Nat.le_refl md) (Nat.le_refl _)
          have e47 : mX4_size (k + 47) I3 = some (nI (L (k + 47)).length) := rs_size H3.1 (by unfold rowA; omega)
          obtain ⟨I4, p1, H4, p3⟩ := pu_put H3 (a := k + 57) (by omega) (j := a + j) (by omega) (nI (L (k + 47)).length)
          have hC4 : CR I4 B3 J3 bs u3 r3 := CR_I s4 (p3 6 (by omega)) (p3 9 (by omega)) (p3 10 (by omega)) (p3 11 (by omega))
          have fB3 : ∀ c v, 187 ≤ c → ¬ (188 ≤ c ∧ c ≤ 191 ∧ v = 1400 * h + md) → B3 c v = B c v := fun c v w1 w2 => by rw [s7.1 _ _ (by omega), l7.1 _ _ (by omega), m9 _ _ (by omega) w2]
          have fJ3 : ∀ c v, 187 ≤ c → ¬ (c = 192 ∧ v = 1400 * h + md) → J3 c v = J c v := fun c v w1 w2 => by rw [s7.2 _ _ (by omega), l7.2 _ _ (by omega), m10 _ _ w2]
          have hTE4 : TE k L (upL L (k + 57) ((L (k + 57)).set (a + j) (nI (L (k + 47)).length))) := TE_eq (fun c q1 q2 => upL_n _ _ (by omega))
          have hM := hh.2.2.2.1
          have hok4 : SOK k h M (upL L (k + 57) ((L (k + 57)).set (a + j) (nI (L (k + 47)).length))) B3 J3 n nest S := sok_to hok hT hTE4 (fun v _ _ => ⟨fB3 _ _ (by omega) (by omega), fB3 _ _ (by omega) (by omega), fB3 _ _ (by omega) (by omega), fB3 _ _ (by omega) (by omega), fJ3 _ _ (by omega) (by omega)⟩)
          have hv4 : SV B3 J3 n (nest + 1) S := sv_to hv ⟨hS85, hok.2.1⟩ (fun c i w1 w2 w3 => fB3 c i (by omega) (by omega)) (fun i w1 w2 => fJ3 _ _ (by omega) (by omega))
          obtain ⟨B5, J5, b1, H5, b3, b4⟩ := pu_back H4 hok4 hv4
          have hC5 : CR I4 B5 J5 bs u3 r3 := CR_B hC4 (fun j _ _ => b3 _ _ (by omega) (by omega)) (funext fun j => b3 _ _ (by omega) (by omega)) (b4 _ _ (by omega))
          obtain ⟨I5, c6, c8, n1, H6, n3, n4⟩ := pt_enter H5
          have hTR : TR k (upL L (k + 57) ((L (k + 57)).set (a + j) (nI (L (k + 47)).length))) B5 J5 (fun v => 1400 * h ≤ v ∧ v < M) e.2.2.2.2 e.2.2.1 e.2.2.2.1 e.2.2.2.2 := tr_to hT hTE4 (fun v hv => ⟨by rw [b3 _ _ (by omega) (by omega)]; exact fB3 _ _ (by omega) (by omega), by rw [b3 _ _ (by omega) (by omega)]; exact fB3 _ _ (by omega) (by omega), by rw [b3 _ _ (by omega) (by omega)]; exact fB3 _ _ (by omega) (by omega), by rw [b3 _ _ (by omega) (by omega)]; exact fB3 _ _ (by omega) (by omega), by rw [b4 _ _ (by omega)]; exact fJ3 _ _ (by omega) (by omega)⟩) (fun v hv => hv) _ _ _ _ _ (Nat.le_refl _) y6
          obtain ⟨I6, z1, H7, z3⟩ := ps_set H6 hs hs2 y5 hTR
          have hC7 : CR I6 (a_u2 B5 209 (sg n i) (nI e.2.2.1)) J5 bs u3 r3 := CR_B (CR_I hC5 (by rw [z3 6 (by omega), n4 6 (by omega)]) (by rw [z3 9 (by omega), n4 9 (by omega)]) (by rw [z3 10 (by omega), n4 10 (by omega)]) (by rw [z3 11 (by omega), n4 11 (by omega)])) (fun j _ _ => a_u2_n _ _ (by omega)) (funext fun j => a_u2_n _ _ (by omega)) rfl
          have ebt : mX10_branchT (k + 1) I5 (nI s.2.2.2.1) (nI j) = some (nI e.2.2.2.1) := by
            rw [bt_c H6.1.1 (f := f) (by omega) (by rw [upL_n _ _ (by omega)]; exact hcho.2.2.1) j (by omega), upL_n _ _ (by omega), y4]
          have e189 : B5 189 e.1 = nI e.2.2.1 := by rw [b3 _ _ (by omega) (by omega), fB3 _ _ (by omega) (by omega)]; exact ce3
          have rp7 : rP h md (nest + 1) B J (a_u2 B5 209 (sg n i) (nI e.2.2.1)) J5 := (rp3.trans ⟨fun c v w1 w2 w3 w4 => b3 c v (by omega) (by omega), fun c v w1 w2 w3 w4 => b4 c v (by omega)⟩ (Nat.le_refl md) (Nat.le_refl _)).trans (rP_209 _ _) (Nat.le_refl md) (Nat.le_refl _)
          have fr6 : cW k I I6 := cQ_cW hk0 (((cf_cQ l6).trans (cf_cQ s6)).trans (fun c w1 w2 w3 => by rw [z3 c (by omega), n4 c (by omega), p3 c (by omega)]))
          have e113 : mX3_readAlternative_113 Rc I1b F (nI κ) (nI (nest + 1)) (nI i) (nI s.2.2.2.1) (nI t.2.2) (nI j) (nI (a + j)) = (Rc.2.2.2.2 I6 F (nI (nest + 1))).bind fun q7 => (mX5_leave q7.2).bind fun q8 => some (q7.1, q8) := by
            unfold mX3_readAlternative_113
            rw [hF]
            show ((mX2_want I1b (nI 58)).bind _) = _
            rw [s2, sb, e47, sb, p1, sb, n1, sb, ebt, sb, z1, sb]
          have len2 : ∀ c, (upL L (k + 57) ((L (k + 57)).set (a + j) (nI (L (k + 47)).length)) c).length = (L c).length := by
            intro c
            by_cases q : c = k + 57
            · subst q; rw [upL_s, List.length_set]
            · rw [upL_n _ _ q]
          have s3' : mX12_need B2 J2 58 = some (1, B3, J3) := s3
          rw [e113, s3', sb, if_neg i10]
          rcases inP hP (S := S) (by rw [List.length_set]) hC7 H7 H4.2.2.2.2.2.2.2.1.1 (lk_8 n3) with ⟨x, I8, I9, B9, J9, g1, g2, g3, g4⟩ | ⟨l, I8, I9, B9, J9, t9, r9, L9, md9, d6, d8, d0, wd9, u, m, g1, g2, g3, g4, g5, g6, g7, g8, g9, g10, g11, g12, g13⟩
          · left
            refine ⟨x, I9, B9, J9, by rw [g1, sb, g2, sb], ?_, PL.pre (cW_FQ fr6) (rP_RX rp7) g4⟩
            show ((mX12_back (a_u2 B3 186 43 (nI S.length)) J3 (nI (nest + 1))).bind _) = _
            rw [b1, sb]
            show ((R.2.2.2 (a_u2 B5 209 (sg n i) (B5 189 e.1)) J5).bind _) = _
            rw [e189, g3, sb, if_pos rfl]
          · right
            have gl := pgr_lt g10
            rw [len2] at g7 g8
            rw [len2] at g7
            rw [gm_set] at g7
            have fB9 : ∀ c v, 188 ≤ c → c ≤ 191 → v < 1400 * h + (md + 1) → B9 c v = B3 c v := fun c v q1 q2 q3 => by rw [g12.1 c v (by omega) (by omega) (by omega) (by omega), a_u2_n _ _ (by omega), b3 c v (by omega) (by omega)]
            have fJ9 : ∀ v, v < 1400 * h + (md + 1) → J9 192 v = J3 192 v := fun v q3 => by rw [g12.2 192 v (by omega) (by omega) (by omega) (by omega), b4 192 v (by omega)]
            refine ⟨j, e, l, I9, B9, J9, t9, r9, L9, md9, d6, d8, d0, wd9, u, m, f1, y2, hu, by rw [g1, sb, g2, sb], ?_, g4, g5, g6, ?_, ?_, g7, g8, g9, pgr_w g10 (by omega) (Nat.le_refl _) (Nat.le_refl _) (by have := pgr_md g10; omega), fr6.trans g11, rp7.trans g12 (by omega) (Nat.le_refl _), fun c v q1 q2 q3 => by rw [fB9 c v q1 q2 (by omega)]; exact fB3 c v (by omega) (by omega), fun v q3 => by rw [fJ9 v (by omega)]; exact fJ3 _ v (by omega) (by omega), g13⟩
            · show ((mX12_back (a_u2 B3 186 43 (nI S.length)) J3 (nI (nest + 1))).bind _) = _
              rw [b1, sb]
              show ((R.2.2.2 (a_u2 B5 209 (sg n i) (B5 189 e.1)) J5).bind _) = _
              rw [e189, g3, sb, if_neg i10]
            · rw [fJ9 _ (by omega), s7.2 _ _ (by omega), l7.2 _ _ (by omega), m7, hJ6, f2]
            · rw [fB9 _ _ (by omega) (by omega) (by omega), s7.1 _ _ (by omega), l7.1 _ _ (by omega)]
              exact m6
        · left
          obtain ⟨x, I', d1, d2⟩ := pfo_PL ((PL.pre (cQ_FQ (cf_cQ l6)) (rP_RX rp2) (fail_PL s4 (pu_scp H2) (by omega))).mono (Nat.le_succ b) (by omega)) (c' := b + 1) (o := mX3_readAlternative_113 Rc I1b F (nI κ) (nI (nest + 1)) (nI i) (nI s.2.2.2.1) (nI t.2.2) (nI j) (nI (a + j))) (fun f p hf => by
            have hx := pf_113 hF hcc hf (nI κ) (nI (nest + 1)) (nI i) (nI s.2.2.2.1) (nI t.2.2) (nI j) (nI (a + j))
            unfold mX3_readAlternative_113 at hx ⊢
            rw [fm_want hf.1 (by decide)] at hx
            have s2' : mX2_want I1b 58 = some I3 := s2
            rw [s2']
            exact hx)
          refine ⟨x, I', B3, J2, d1, ?_, d2⟩
          show ((mX12_need B2 J2 (nI 58)).bind _) = _
          rw [s3, sb, if_pos rfl]
      · -- it was read before
        left
        have hex : ∃ x ∈ bl, x.2.2.1 = t.2.1 := by
          apply Classical.byContradiction
          intro z
          exact hu ((hus j e f1).mpr (fun x hx w => z ⟨x, hx, by rw [w, f2]⟩))
        obtain ⟨x, I', B', c1, c2, c3⟩ := fin (f := 2) (nI j) (nI (a + j)) (by decide)
        exact ⟨x, I', B', J, by rw [if_neg hu]; exact c1, by rw [dup_yes hwN hJ6 bl _ LF hbl hbl6 (fun x hx => (hbN x hx).1) hex]; exact c2, c3⟩
    · left
      obtain ⟨x, I', B', c1, c2, c3⟩ := fin (f := 3) (-1) (nI a + (-1)) (by decide)
      refine ⟨x, I', B', J, ?_, ?_, c3⟩
      · unfold alR
        rw [f3, sb, a51, sb, if_pos rfl]
        exact c1
      · rw [dup_no hwN hJ6 bl _ LF hbl hbl6 (fun x hx => ⟨(hbN x hx).1, fun z => by
          obtain ⟨j, e', w1, w2⟩ := (hbN x hx).2
          exact f1 e' (List.mem_of_getElem? w1) (by rw [w2, z])⟩)]
        unfold csB
        rw [hJ6, f4, sb, if_pos rfl]
        exact c2
  · left
    obtain ⟨I9, B9, b1, b2, b3, b4⟩ := jbad hC H.1 h (f := 1) (by decide) (nI t.2.2)
    have eT : mX2_takeName I = some (0, I9) := by
      unfold mX2_takeName
      rw [if_neg (fun z => q (ec.mp z)), cr_8 hC, b1, sb]
    obtain ⟨x, I', d1, d2⟩ := pfo_PL ((fail_PL b3 (pu_scp H) (by omega)).mono (Nat.le_succ b) (by omega)) (c' := b + 1) (fun f p hf => pf_alR (Rc := Rc) hF hcc hf (tb_keep H.1 hT hf.1 (fun a q1 q2 => b4 a (by omega))) (nI κ) (nI (nest + 1)) (nI i) (nI s.2.2.2.1) (nI t.2.2) 0)
    refine ⟨x, I', B9, J, by rw [eC, eT, sb]; exact d1, ?_, d2⟩
    unfold mX12_cases_77
    rw [if_neg (fun z => q (er.mp z)), cr_4 hC]
    exact rBad_ok b2
end
