/-! ALL ARGS, in both (pure) -/
/-- what ARGS leave -/
def AG (k h M n : Nat) (D : List Df) (F : fT) (bs : List Nat) (nest wd b z : Nat) (a6 a8 a0 : List Int32) (ps : Gm) (I B : iT) (J : jT) (L : lT) (P md : Nat) (S : List Sl) (o : Option Nat) (I' B' : iT) (J' : jT) : Prop :=
  ∃ t' r' L' S' md' c6 c8, CR I' B' J' bs t' r' ∧ PS k h M n D F I' B' J' L' t'.2.2 md' nest S' c6 c8 a0 wd b z ∧ argR k n L' B' (fun v => 1400 * h + md ≤ v ∧ v < 1400 * h + md') ps (gm S) (hdT o B') (L (k + 59)).length (gm S') ∧ (∀ bt, o = some bt → B' 186 50 = B 186 50) ∧ B' 186 46 = B 186 46 ∧ SE k L L' ∧ (∀ a, ¬ (k + 19 ≤ a ∧ a ≤ k + 27) → a ≠ k + 59 → L' a = L a) ∧ (∃ r, L' (k + 59) = L (k + 59) ++ r) ∧ md ≤ md' ∧ (L' (k + 19)).length + P ≤ (L (k + 19)).length + t'.2.2 ∧ md' + P ≤ md + t'.2.2 ∧ 2 * (L' (k + 59)).length + P ≤ 2 * (L (k + 59)).length + t'.2.2 ∧ P + 1 ≤ t'.2.2 ∧ cQ k I I' ∧ rP h md nest (upT o B (hdT o B')) J B' J' ∧ LK nest a6 a8 a0 c6 c8 a0 ∧ S'.length = S.length ∧ S'[0]? = S[0]? ∧ (∀ (i : Nat) (s' : Sl), S'[i]? = some s' → s'.1 ≠ 0 → S[i]? = some s')
section
variable {k h M n : Nat} {D : List Df} {F : fT} {bs : List Nat} {nest wd b z : Nat} {a0 : List Int32}
theorem rP_0 {md : Nat} {B B' : iT} {J J' : jT} (H : rP h md nest B J B' J') : rP h 0 nest B J B' J' := rP.trans rP_rfl H (Nat.zero_le _) (Nat.le_refl nest)
theorem upT_RX {o : Option Nat} {B : iT} {J : jT} {md : Nat} {x3 v : Int32} (ho : TLc o B h M md x3) (hm : md ≤ 1000) : rP h 0 nest B J (upT o B v) J := by
  cases o with
  | none => exact rP_rfl
  | some bt =>
    obtain ⟨o1, o2, o3, o4, _⟩ := ho
    exact rP_s191 (by omega) v
theorem one_set {L : lT} {B : iT} {md md8 : Nat} {S S8 : List Sl} {q : Nat × Nat} {x : Nat} (H : ONE k h n L B md md8 S S8 q x) : S8.length = S.length ∧ S8[0]? = S[0]? ∧ (∀ (i : Nat) (s' : Sl), S8[i]? = some s' → s'.1 ≠ 0 → S[i]? = some s') := by
  rcases H with ⟨c1, c2, c3, _⟩ | ⟨c1, c2, c3, c4, c5, c6⟩
  · subst c3
    exact ⟨rfl, rfl, fun _ _ z _ => z⟩
  · subst c3
    refine ⟨List.length_set, List.getElem?_set_ne (by omega), fun i s' e1 e2 => ?_⟩
    by_cases q : i = x
    · subst q
      have hx : i < S.length := by
        rcases Nat.lt_or_ge i S.length with w | w
        · exact w
        · rw [List.getElem?_eq_none (by rw [List.length_set]; exact w)] at e1
          cases e1
      rw [List.getElem?_set_self hx] at e1
      have := Option.some.inj e1
      subst this
      exact (e2 rfl).elim
    · rw [List.getElem?_set_ne (fun z => q z.symm)] at e1
      exact e1
theorem gt0 {a : Nat} (h : 0 < a) (h2 : a < 2 ^ 31) : ¬ nI a ≤ 0 := by
  have z : ¬ nI a ≤ nI 0 := nI_ge h h2
  rw [nI_0] at z
  exact z
theorem args_ok {fd : Nat} {df : Df} (hd : D[fd]? = some df) {κ : Int32} : ∀ (ps : Gm) (q : Nat × Nat) (i : Nat) (o : Option Nat) (I B : iT) (J : jT) (L : lT) (t : Tok) (r : List Tok) (md : Nat) (S : List Sl) (a6 a8 : List Int32) (x3 : Int32) (m m' : Nat), df.2.1.drop i = q :: ps → CR I B J bs t r → PS k h M n D F I B J L t.2.2 md nest S a6 a8 a0 wd b z → md + 1 ≤ t.2.2 → 2 * (L (k + 59)).length + 1 ≤ t.2.2 → TLc o B h M md x3 → ps.length + 1 < m → ps.length < m' →
    (∃ I' B' J', mX3_readArgs_93 m I F κ (nI fd) (nI nest) (nI df.2.1.length - 1) (nI i) = some I' ∧ mX12_call_149 (mX12_call_87 m') B J (nI fd) (nI df.2.1.length) x3 (nI i) = some (0, B', J') ∧ PL k h b I B J I' B' J') ∨
    (∃ I' B' J', mX3_readArgs_93 m I F κ (nI fd) (nI nest) (nI df.2.1.length - 1) (nI i) = some I' ∧ mX12_call_149 (mX12_call_87 m') B J (nI fd) (nI df.2.1.length) x3 (nI i) = some (1, B', J') ∧ AG k h M n D F bs nest wd b z a6 a8 a0 (q :: ps) I B J L t.2.2 md S o I' B' J') := by
  intro ps
  induction ps with
  | nil =>
    intro q i o I B J L t r md S a6 a8 x3 m m' hdr hC H hmd h59 ho hm hm'
    obtain ⟨m, rfl⟩ : ∃ y, m = y + 1 := ⟨m - 1, by omega⟩
    obtain ⟨m', rfl⟩ : ∃ y, m' = y + 1 := ⟨m' - 1, by omega⟩
    have hk0 := H.1.1.1
    have hF := H.2.1.1
    have hbb := H.2.2.2.2.2.2.2.2
    have hq : df.2.1[i]? = some q := by rw [← List.head?_drop, hdr]; rfl
    have hlen : df.2.1.length = i + 1 := by
      have := congrArg List.length hdr
      rw [List.length_drop] at this
      simp at this
      have := (List.getElem?_eq_some_iff.mp hq).1
      omega
    have h4 : df.2.1.length ≤ 4 := (H.2.2.2.1.2.2.2 fd df hd).2.2.2.2.2.2.1
    have hPt := cr_end hC
    rw [a93_eq, if_neg (fun z => by have := (ar_lt df.2.1.length (by omega) i (by omega)).mp z; omega), hF]
    have pfK : ∀ (f p : Int32) (I' : iT), PF k f p b I' → PFu k f p b I' (mX3_readArgs_93 m I' F κ (nI fd) (nI nest) (nI df.2.1.length - 1) (nI i + 1)) := by
      intro f p I' h'
      rw [nI_1]
      exact pf_a93 hF h4 0 (i + 1) m I' h' (by omega) (by simp at hm; omega)
    obtain ⟨q6, e0, HO⟩ := arg_step hC H hmd h59 hd hq (mX12_call_87 (m' + 1)) (nI df.2.1.length) ho
    rw [e0, sb]
    rcases HO with ⟨x, I', B', J', c1, c2, c3⟩ | ⟨x, I8, I9, B9, J9, t8, r8, L9, S8, md8, c6, c8, g1, g2, g3, g4, g5, g6, g7, g8, g9, g10, g11, g12, g13, g14, g15, g16, g17, g18, g19, g20, g21⟩
    · left
      obtain ⟨I'', b1, b2⟩ := pfu_PL c3 (c' := b) (fun f p hf => pf_a136 hF hf (pfK f p) q6 x)
      exact ⟨I'', B', J', by rw [c1, sb]; exact b1, c2, b2⟩
    · rw [g1, sb, g3]
      have hP8 := cr_end g4
      have pre : rP h 0 nest B J B9 J9 := (upT_RX ho (by omega)).trans (rP_0 g20) (Nat.le_refl 0) (Nat.le_refl nest)
      -- the class at the last sign
      have eC : mX3_readArgs_136 (mX3_readArgs_93 m) I8 F κ (nI fd) (nI nest) (nI df.2.1.length - 1) (nI i) q6 (nI x) = if t8.1 = 44 then (mX2_refuse I9 6 (nI t8.2.2)).bind fun q3 => mX3_readArgs_191 (mX3_readArgs_93 m) q3 F κ (nI fd) (nI nest) (nI df.2.1.length - 1) (nI i) q6 (nI x) else mX3_readArgs_191 (mX3_readArgs_93 m) I9 F κ (nI fd) (nI nest) (nI df.2.1.length - 1) (nI i) q6 (nI x) := by
        unfold mX3_readArgs_136 mX3_readArgs_169 mX2_is
        rw [hF, g2, sb, if_pos ((ar_le df.2.1.length (by omega) i (by omega)).mpr (by omega))]
        have e44 : I9 6 6 = 44 ↔ t8.1 = 44 := cr_c g4 44 (by omega)
        by_cases w : t8.1 = 44
        · rw [if_pos w]
          show ((if I9 6 6 = 44 then some 1 else some 0).bind fun q2 => if q2 = 0 then mX3_readArgs_191 (mX3_readArgs_93 m) I9 F κ (nI fd) (nI nest) (nI df.2.1.length - 1) (nI i) q6 (nI x) else (mX2_refuse I9 6 (I9 6 8)).bind fun q3 => mX3_readArgs_191 (mX3_readArgs_93 m) q3 F κ (nI fd) (nI nest) (nI df.2.1.length - 1) (nI i) q6 (nI x)) = _
          rw [if_pos (e44.mpr w), sb, if_neg i10, cr_8 g4]
        · rw [if_neg w]
          show ((if I9 6 6 = 44 then some 1 else some 0).bind fun q2 => if q2 = 0 then mX3_readArgs_191 (mX3_readArgs_93 m) I9 F κ (nI fd) (nI nest) (nI df.2.1.length - 1) (nI i) q6 (nI x) else (mX2_refuse I9 6 (I9 6 8)).bind fun q3 => mX3_readArgs_191 (mX3_readArgs_93 m) q3 F κ (nI fd) (nI nest) (nI df.2.1.length - 1) (nI i) q6 (nI x)) = _
          rw [if_neg (fun z => w (e44.mp z)), sb, if_pos rfl]
      have eR : mX12_call_87 (m' + 1) B9 J9 (nI fd) (nI df.2.1.length) (nI (1400 * h + md8)) (nI (i + 1)) = if t8.1 = 44 then rBad B9 J9 6 (nI t8.2.2) else (mX12_need B9 J9 41).bind fun q10 => if q10.1 = 0 ∨ q10.1 = 1 then some (q10.1, q10.2.1, q10.2.2) else none := by
        have s44 : mX12_isSign B9 44 = some (if t8.1 = 44 then 1 else 0) := cr_sign g4 44 (by omega)
        rw [mX12_call_87, if_pos (nI_le (by omega) (by omega)), if_neg (gt0 (by omega) (by omega)), s44, sb]
        by_cases w : t8.1 = 44
        · rw [if_pos w, if_pos w, if_neg i10, cr_4 g4]
          rfl
        · rw [if_neg w, if_neg w, if_pos rfl]
          rfl
      show (∃ I' B' J', mX3_readArgs_136 (mX3_readArgs_93 m) I8 F κ (nI fd) (nI nest) (nI df.2.1.length - 1) (nI i) q6 (nI x) = some I' ∧ _ = _ ∧ _) ∨ (∃ I' B' J', mX3_readArgs_136 (mX3_readArgs_93 m) I8 F κ (nI fd) (nI nest) (nI df.2.1.length - 1) (nI i) q6 (nI x) = some I' ∧ _ = _ ∧ _)
      rw [eC, eR]
      by_cases w : t8.1 = 44
      · rw [if_pos w, if_pos w]
        left
        obtain ⟨I10, B10, a1, a2, a3, a4⟩ := pbad g4 g5 (f := 6) (by decide) (nI t8.2.2)
        obtain ⟨I', b1, b2⟩ := pfu_PL (PL.pre (cQ_FQ g19) (rP_RX pre) a3) (c' := b) (fun f p hf => pf_a191 hf (pfK f p) q6 (nI x))
        exact ⟨I', B10, J9, by rw [a1, sb]; exact b1, rBad_ok a2, b2⟩
      · rw [if_neg w, if_neg w]
        have e191 : mX3_readArgs_191 (mX3_readArgs_93 m) I9 F κ (nI fd) (nI nest) (nI df.2.1.length - 1) (nI i) q6 (nI x) = (mX2_want I9 41).bind fun q1 => mX3_readArgs_93 m q1 F κ (nI fd) (nI nest) (nI df.2.1.length - 1) (nI i + 1) := by
          unfold mX3_readArgs_191 mX3_readArgs_209
          rw [if_pos ((ar_le df.2.1.length (by omega) i (by omega)).mpr (by omega))]
        rw [e191]
        rcases jneed g4 g5.1.1 h 41 (by omega) with ⟨w1, u, r', I10, B10, J10, k1, k2, k3, k4, k5, k6, k7⟩ | ⟨w1, I10, B10, k2, k3, k4⟩
        · right
          have htl : tl t8.1 = 1 := by rw [w1]; decide
          rw [htl] at k5
          obtain ⟨m, rfl⟩ : ∃ y, m = y + 1 := ⟨m - 1, by simp at hm; omega⟩
          have H10 := ps_cur g5 k6 k7 (P' := u.2.2) (by omega)
          have hS10 := g5.1.2.2.2.1
          have hhd : hdT o B10 = nI (1400 * h + md8) := by
            cases o with
            | none => show B10 186 50 = _; rw [k7.1 _ _ (by omega)]; exact g9
            | some bt => show B10 191 bt = _; rw [k7.1 _ _ (by omega)]; exact g9
          obtain ⟨w1', w2', w3'⟩ := one_set g7
          refine ⟨I10, B10, J10, ?_, ?_, u, r', L9, S8, md8 + 1, c6, c8, k4, H10, ?_, fun bt hbt => by rw [k7.1 _ _ (by omega)]; exact g10 bt hbt, by rw [k7.1 _ _ (by omega)]; exact g11, g14, g15, ⟨_, g8⟩, by omega, by omega, by omega, by rw [g8]; simp; omega, by omega, g19.trans (cf_cQ k6), ?_, g21, w1', w2', w3'⟩
          · show ((mX2_want I9 (nI 41)).bind _) = _
            rw [k2, sb, nI_1, a93_eq, if_pos ((ar_lt df.2.1.length (by omega) (i + 1) (by omega)).mpr (by omega)), if_pos ((ar_p df.2.1.length (by omega)).mpr (by omega))]
          · show ((mX12_need B9 J9 (nI 41)).bind _) = _
            rw [k3, sb, if_pos (Or.inr rfl)]
          · rw [hhd]
            exact arg_cons hS10 (one_to hS10 SE.rfl (fun v _ => ⟨k7.1 _ _ (by omega), k7.1 _ _ (by omega), k7.1 _ _ (by omega)⟩) g7) (by have := H.1.2.2.2.2.1.1; omega) ⟨by omega, by omega⟩ (fun v v1 v2 => ⟨v1, by omega⟩) (by rw [g8]; simp) (by rw [g8]; exact gI_e _ _) ⟨by rw [k7.1 _ _ (by omega)]; exact g12, rfl⟩
          · rw [hhd]
            exact g20.trans (rf_rP k7) (Nat.le_refl md) (Nat.le_refl nest)
        · left
          obtain ⟨I', b1, b2⟩ := pfu_PL (PL.pre (cQ_FQ g19) (rP_RX pre) (fail_PL k4 (ps_scp g5) (by omega))) (c' := b) (fun f p hf => pfK f p I10 hf)
          refine ⟨I', B10, J9, ?_, ?_, b2⟩
          · show ((mX2_want I9 (nI 41)).bind _) = _
            rw [k2, sb]
            exact b1
          · show ((mX12_need B9 J9 (nI 41)).bind _) = _
            rw [k3, sb, if_pos (Or.inl rfl)]
  | cons q2 ps ih =>
    intro q i o I B J L t r md S a6 a8 x3 m m' hdr hC H hmd h59 ho hm hm'
    simp only [List.length_cons] at hm hm'
    obtain ⟨m, rfl⟩ : ∃ y, m = y + 1 := ⟨m - 1, by omega⟩
    obtain ⟨m', rfl⟩ : ∃ y, m' = y + 1 := ⟨m' - 1, by omega⟩
    have hk0 := H.1.1.1
    have hF := H.2.1.1
    have hbb := H.2.2.2.2.2.2.2.2
    have hq : df.2.1[i]? = some q := by rw [← List.head?_drop, hdr]; rfl
    have hdn : df.2.1.drop (i + 1) = q2 :: ps := by rw [← List.tail_drop, hdr]; rfl
    have hlen : df.2.1.length = i + 2 + ps.length := by
      have := congrArg List.length hdr
      rw [List.length_drop] at this
      simp at this
      have := (List.getElem?_eq_some_iff.mp hq).1
      omega
    have h4 : df.2.1.length ≤ 4 := (H.2.2.2.1.2.2.2 fd df hd).2.2.2.2.2.2.1
    have hPt := cr_end hC
    rw [a93_eq, if_neg (fun z => by have := (ar_lt df.2.1.length (by omega) i (by omega)).mp z; omega), hF]
    have pfK : ∀ (f p : Int32) (I' : iT), PF k f p b I' → PFu k f p b I' (mX3_readArgs_93 m I' F κ (nI fd) (nI nest) (nI df.2.1.length - 1) (nI i + 1)) := by
      intro f p I' h'
      rw [nI_1]
      exact pf_a93 hF h4 (ps.length + 1) (i + 1) m I' h' (by omega) (by omega)
    obtain ⟨q6, e0, HO⟩ := arg_step hC H hmd h59 hd hq (mX12_call_87 (m' + 1)) (nI df.2.1.length) ho
    rw [e0, sb]
    rcases HO with ⟨x, I', B', J', c1, c2, c3⟩ | ⟨x, I8, I9, B9, J9, t8, r8, L9, S8, md8, c6, c8, g1, g2, g3, g4, g5, g6, g7, g8, g9, g10, g11, g12, g13, g14, g15, g16, g17, g18, g19, g20, g21⟩
    · left
      obtain ⟨I'', b1, b2⟩ := pfu_PL c3 (c' := b) (fun f p hf => pf_a136 hF hf (pfK f p) q6 x)
      exact ⟨I'', B', J', by rw [c1, sb]; exact b1, c2, b2⟩
    · rw [g1, sb, g3]
      have hP8 := cr_end g4
      have pre : rP h 0 nest B J B9 J9 := (upT_RX ho (by omega)).trans (rP_0 g20) (Nat.le_refl 0) (Nat.le_refl nest)
      have hnle : ¬ nI df.2.1.length - 1 ≤ nI i := fun z => by have := (ar_le df.2.1.length (by omega) i (by omega)).mp z; omega
      have eC : mX3_readArgs_136 (mX3_readArgs_93 m) I8 F κ (nI fd) (nI nest) (nI df.2.1.length - 1) (nI i) q6 (nI x) = if t8.1 = 41 then (mX2_refuse I9 6 (nI t8.2.2)).bind fun q3 => mX3_readArgs_191 (mX3_readArgs_93 m) q3 F κ (nI fd) (nI nest) (nI df.2.1.length - 1) (nI i) q6 (nI x) else mX3_readArgs_191 (mX3_readArgs_93 m) I9 F κ (nI fd) (nI nest) (nI df.2.1.length - 1) (nI i) q6 (nI x) := by
        unfold mX3_readArgs_136 mX3_readArgs_169 mX2_is
        rw [hF, g2, sb, if_neg hnle]
        have e44 : I9 6 6 = 41 ↔ t8.1 = 41 := cr_c g4 41 (by omega)
        by_cases w : t8.1 = 41
        · rw [if_pos w]
          show ((if I9 6 6 = 41 then some 1 else some 0).bind fun q2 => if q2 = 0 then mX3_readArgs_191 (mX3_readArgs_93 m) I9 F κ (nI fd) (nI nest) (nI df.2.1.length - 1) (nI i) q6 (nI x) else (mX2_refuse I9 6 (I9 6 8)).bind fun q3 => mX3_readArgs_191 (mX3_readArgs_93 m) q3 F κ (nI fd) (nI nest) (nI df.2.1.length - 1) (nI i) q6 (nI x)) = _
          rw [if_pos (e44.mpr w), sb, if_neg i10, cr_8 g4]
        · rw [if_neg w]
          show ((if I9 6 6 = 41 then some 1 else some 0).bind fun q2 => if q2 = 0 then mX3_readArgs_191 (mX3_readArgs_93 m) I9 F κ (nI fd) (nI nest) (nI df.2.1.length - 1) (nI i) q6 (nI x) else (mX2_refuse I9 6 (I9 6 8)).bind fun q3 => mX3_readArgs_191 (mX3_readArgs_93 m) q3 F κ (nI fd) (nI nest) (nI df.2.1.length - 1) (nI i) q6 (nI x)) = _
          rw [if_neg (fun z => w (e44.mp z)), sb, if_pos rfl]
      have eR : mX12_call_87 (m' + 1) B9 J9 (nI fd) (nI df.2.1.length) (nI (1400 * h + md8)) (nI (i + 1)) = if t8.1 = 41 then rBad B9 J9 6 (nI t8.2.2) else (mX12_need B9 J9 44).bind fun q16 => if q16.1 = 0 then some (0, q16.2.1, q16.2.2) else mX12_call_149 (mX12_call_87 m') q16.2.1 q16.2.2 (nI fd) (nI df.2.1.length) (nI (1400 * h + md8)) (nI (i + 1)) := by
        have s44 : mX12_isSign B9 41 = some (if t8.1 = 41 then 1 else 0) := cr_sign g4 41 (by omega)
        rw [mX12_call_87, if_neg (nI_ge (by omega) (by omega)), if_neg (gt0 (a := i + 1) (by omega) (by omega)), s44, sb]
        by_cases w : t8.1 = 41
        · rw [if_pos w, if_pos w, if_neg i10, cr_4 g4]
          rfl
        · rw [if_neg w, if_neg w, if_pos rfl]
      show (∃ I' B' J', mX3_readArgs_136 (mX3_readArgs_93 m) I8 F κ (nI fd) (nI nest) (nI df.2.1.length - 1) (nI i) q6 (nI x) = some I' ∧ _ = _ ∧ _) ∨ (∃ I' B' J', mX3_readArgs_136 (mX3_readArgs_93 m) I8 F κ (nI fd) (nI nest) (nI df.2.1.length - 1) (nI i) q6 (nI x) = some I' ∧ _ = _ ∧ _)
      rw [eC, eR]
      by_cases w : t8.1 = 41
      · rw [if_pos w, if_pos w]
        left
        obtain ⟨I10, B10, a1, a2, a3, a4⟩ := pbad g4 g5 (f := 6) (by decide) (nI t8.2.2)
        obtain ⟨I', b1, b2⟩ := pfu_PL (PL.pre (cQ_FQ g19) (rP_RX pre) a3) (c' := b) (fun f p hf => pf_a191 hf (pfK f p) q6 (nI x))
        exact ⟨I', B10, J9, by rw [a1, sb]; exact b1, rBad_ok a2, b2⟩
      · rw [if_neg w, if_neg w]
        have e191 : mX3_readArgs_191 (mX3_readArgs_93 m) I9 F κ (nI fd) (nI nest) (nI df.2.1.length - 1) (nI i) q6 (nI x) = (mX2_want I9 44).bind fun q1 => mX3_readArgs_93 m q1 F κ (nI fd) (nI nest) (nI df.2.1.length - 1) (nI i + 1) := by
          unfold mX3_readArgs_191 mX3_readArgs_209
          rw [if_neg hnle]
        rw [e191]
        rcases jneed g4 g5.1.1 h 44 (by omega) with ⟨w1, u, r', I10, B10, J10, k1, k2, k3, k4, k5, k6, k7⟩ | ⟨w1, I10, B10, k2, k3, k4⟩
        · have htl : tl t8.1 = 1 := by rw [w1]; decide
          rw [htl] at k5
          have H10 := ps_cur g5 k6 k7 (P' := u.2.2) (by omega)
          have eC2 : ((mX2_want I9 44).bind fun q1 => mX3_readArgs_93 m q1 F κ (nI fd) (nI nest) (nI df.2.1.length - 1) (nI i + 1)) = mX3_readArgs_93 m I10 F κ (nI fd) (nI nest) (nI df.2.1.length - 1) (nI (i + 1)) := by
            show ((mX2_want I9 (nI 44)).bind _) = _
            rw [k2, sb, nI_1]
          have eR2 : ((mX12_need B9 J9 44).bind fun q16 => if q16.1 = 0 then some (0, q16.2.1, q16.2.2) else mX12_call_149 (mX12_call_87 m') q16.2.1 q16.2.2 (nI fd) (nI df.2.1.length) (nI (1400 * h + md8)) (nI (i + 1))) = mX12_call_149 (mX12_call_87 m') B10 J10 (nI fd) (nI df.2.1.length) (nI (1400 * h + md8)) (nI (i + 1)) := by
            show ((mX12_need B9 J9 (nI 44)).bind _) = _
            rw [k3, sb, if_neg i10]
          rw [eC2, eR2]
          have hT10 : TLc (some (1400 * h + md8)) B10 h M (md8 + 1) (nI (1400 * h + md8)) := by
            obtain ⟨o1, o2, o3, o4, b0, o5, o6⟩ := g6
            exact ⟨o1, o2, o3, o4, b0, o5, by rw [k7.1 _ _ (by omega)]; exact o6⟩
          have pre10 : rP h 0 nest B J B10 J10 := pre.trans (rf_rP k7) (Nat.le_refl 0) (Nat.le_refl nest)
          rcases ih q2 (i + 1) (some (1400 * h + md8)) I10 B10 J10 L9 u r' (md8 + 1) S8 c6 c8 (nI (1400 * h + md8)) m m' hdn k4 H10 (by omega) (by rw [g8]; simp; omega) hT10 (by omega) (by omega) with ⟨I', B', J', i1, i2, i3⟩ | ⟨I', B', J', i1, i2, t', r'', L', S', md', d6, d8, j1, j2, j3, j4, j5, j6, j7, ⟨rr, j8⟩, j9, j10, j11, j12, j13, j14, j15, j16, j17, j18, j19⟩
          · exact Or.inl ⟨I', B', J', i1, i2, PL.pre (cQ_FQ (g19.trans (cf_cQ k6))) (rP_RX pre10) i3⟩
          · right
            obtain ⟨w1', w2', w3'⟩ := one_set g7
            have hPe := cr_end j1
            have hS9 := g5.1.2.2.2.1
            have hhd : hdT o B' = nI (1400 * h + md8) := by
              cases o with
              | none => show B' 186 50 = _; rw [j4 _ rfl, k7.1 _ _ (by omega)]; exact g9
              | some bt =>
                obtain ⟨o1, o2, o3, o4, _⟩ := ho
                show B' 191 bt = _
                rw [j15.1 191 bt (by omega) (by omega) (by omega) (by omega)]
                show (a_u2 B10 191 (1400 * h + md8) (hdT (some (1400 * h + md8)) B')) 191 bt = _
                rw [a_u2_n _ _ (by omega), k7.1 _ _ (by omega)]
                exact g9
            have hB9 : ∀ c v, 188 ≤ c → c ≤ 190 → v < 1400 * h + md8 + 1 → B' c v = B9 c v := by
              intro c v c1 c2 c3
              rw [j15.1 c v (by omega) (by omega) (by omega) (by omega)]
              show (a_u2 B10 191 (1400 * h + md8) (hdT (some (1400 * h + md8)) B')) c v = _
              rw [a_u2_n _ _ (by omega), k7.1 _ _ (by omega)]
            refine ⟨I', B', J', i1, i2, t', r'', L', S', md', d6, d8, j1, j2, ?_, fun bt hbt => by rw [j4 _ rfl, k7.1 _ _ (by omega)]; exact g10 bt hbt, by rw [j5, k7.1 _ _ (by omega)]; exact g11, g14.trans j6, fun a w1 w2 => by rw [j7 a w1 w2]; exact g15 a w1 w2, ⟨[nI x] ++ rr, by rw [j8, g8, List.append_assoc]⟩, by omega, by omega, by omega, by rw [g8] at j12; simp at j12; omega, by omega, (g19.trans (cf_cQ k6)).trans j14, ?_, g21.trans j16, by omega, by rw [j18]; exact w2', fun a s' s1 s2 => w3' a s' (j19 a s' s1 s2) s2⟩
            · rw [hhd]
              have j3' := arg_mono (Q' := fun v => 1400 * h + md ≤ v ∧ v < 1400 * h + md') j2.1.2.2.2.1 (fun v hv => ⟨by omega, hv.2⟩) _ _ _ _ _ j3
              have l9 : (L9 (k + 59)).length = (L (k + 59)).length + 1 := by rw [g8]; simp
              rw [l9] at j3'
              exact arg_cons j2.1.2.2.2.1 (one_to hS9 j6 (fun v hv => ⟨hB9 188 v (by omega) (by omega) hv, hB9 189 v (by omega) (by omega) hv, hB9 190 v (by omega) (by omega) hv⟩) g7) (by have := H.1.2.2.2.2.1.1; omega) ⟨by omega, by omega⟩ (fun v v1 v2 => ⟨v1, by omega⟩) (by rw [j8, List.length_append, l9]; omega) (by rw [j8, gI_l _ (by omega), g8]; exact gI_e _ _) j3'
            · rw [hhd]
              exact ((g20.trans (rf_rP k7) (Nat.le_refl md) (Nat.le_refl nest)).trans (rP_s191 (bt := 1400 * h + md8) (by omega) (hdT (some (1400 * h + md8)) B')) (Nat.le_refl md) (Nat.le_refl nest)).trans j15 (by omega) (Nat.le_refl nest)
        · left
          obtain ⟨I', b1, b2⟩ := pfu_PL (PL.pre (cQ_FQ g19) (rP_RX pre) (fail_PL k4 (ps_scp g5) (by omega))) (c' := b) (fun f p hf => pfK f p I10 hf)
          refine ⟨I', B10, J9, ?_, ?_, b2⟩
          · show ((mX2_want I9 (nI 44)).bind _) = _
            rw [k2, sb]
            exact b1
          · show ((mX12_need B9 J9 (nI 44)).bind _) = _
            rw [k3, sb, if_pos rfl]
end
