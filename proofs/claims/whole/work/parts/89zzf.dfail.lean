/-! A DEF IN A FAILED READER; what is there begins (pure) -/
def D7 (k : Nat) (I : iT) (x l : Int32) : Option iT := (mX4_add (k + 41) I l).bind fun q14 => (mX4_add (k + 39) q14.2 (q14.2 134 5)).bind fun q15 => (mX4_add (k + 33) q15.2 x).bind fun q16 => some q16.2
def D6 (k : Nat) (I : iT) (F : fT) (x y : Int32) : Option iT := (mX4_add (k + 35) (a_u2 I 134 5 0) y).bind fun q10 => (mX4_size (k + 47) q10.2).bind fun q11 => (mX4_add (k + 37) q10.2 q11).bind fun q12 => (mX3_readSteps SF q12.2 F 0).bind fun q13 => D7 k q13.2 x q13.1
def D5 (k : Nat) (I : iT) (F : fT) (x g y : Int32) : Option iT := (mX5_set I 0 g y).bind fun q8 => (mX2_want q8 61).bind fun q9 => D6 k q9 F x y
def D4 (k : Nat) (I : iT) (F : fT) (x g : Int32) : Option iT := (mX9_readWhole I F).bind fun q7 => D5 k q7.2 F x g q7.1
def D3 (k : Nat) (I : iT) (F : fT) (x g : Int32) : Option iT := (mX2_want I 58).bind fun q6 => D4 k q6 F x g
def D2 (k : Nat) (I : iT) (F : fT) (x : Int32) : Option iT := (mX3_readFreshThing I).bind fun q5 => D3 k q5.2 F x q5.1
def D1 (k : Nat) (I : iT) (F : fT) (x : Int32) : Option iT := (mX3_readParams I F).bind fun q4 => D2 k q4 F x
def D0 (k : Nat) (I : iT) (F : fT) (x : Int32) : Option iT := (mX5_start I).bind fun q3 => D1 k q3 F x
theorem def_eq {k : Nat} {I : iT} {F : fT} (hF : F 134 4 = k) : mX3_readDef I F = (mX2_want I 301).bind fun q1 => (mX3_readFresh (k + 33) q1 12).bind fun q2 => D0 k q2.2 F q2.1 := by
  unfold mX3_readDef
  rw [hF]
  rfl
/-- the class behind the four places of a DEF's PARAMS -/
def prR (I : iT) (F : fT) (x1 : Int32) : Option iT := (mX2_want I 40).bind fun q11 => (mX2_is q11 256).bind fun q12 => if q12 = 0 then mX3_readParams_76 q11 F x1 0 else mX3_readParams_76 (a_u2 q11 134 6 (q11 6 8)) F x1 0
section
variable {k : Nat} {f p : Int32} {b : Nat} {I : iT} {F : fT}
theorem pf_134 (hp : PF k f p b I) (j : Nat) (v : Int32) : PF k f p b (a_u2 I 134 j v) ∧ FP k I (a_u2 I 134 j v) := ⟨⟨fm_sc hp.1 (by omega) _ _, hp.2.1.keep (fun c q1 q2 => au2_b _ _ (by omega)), hp.2.2⟩, fun q w1 w2 w3 => au2_b _ _ (by omega)⟩
theorem pf_D7 (hp : PF k f p b I) (x l : Int32) : PFu k f p b I (D7 k I x l) := by
  have hk := pf_k hp
  unfold D7
  exact pfu_o (pf_addB hp (by unfold rowB; omega) _) (fun _ I1 h1 => pfu_o (pf_addB h1 (by unfold rowB; omega) _) (fun _ I2 h2 => pfu_o (pf_addB h2 (by unfold rowB; omega) _) (fun _ I3 h3 => pfu_ret h3)))
theorem sf_s : SF = 449 + 1 := rfl
theorem pf_stepsE (hp : PF k f p b I) (x : Int32) : mX3_readSteps SF I F x = some (-1, I) := by
  rw [sf_s]
  exact rs_fail (R := sc_3readAlternative 449) f p b I x hp
theorem pf_D6 (hp : PF k f p b I) (x y : Int32) : PFu k f p b I (D6 k I F x y) := by
  have hk := pf_k hp
  obtain ⟨h1, h2⟩ := pf_134 hp 5 0
  have : PFu k f p b (a_u2 I 134 5 0) (D6 k I F x y) := by
    unfold D6
    refine pfu_o (pf_addB h1 (by unfold rowB; omega) _) (fun _ I1 g1 => pfu_r (fm_size g1.1 (by unfold rowA; omega)) (fun v => pfu_o (pf_addB g1 (by unfold rowB; omega) _) (fun _ I2 g2 => ?_)))
    rw [pf_stepsE g2, sb]
    exact pf_D7 g2 _ _
  obtain ⟨I', a1, a2, a3⟩ := this
  exact ⟨I', a1, a2, h2.trans a3⟩
theorem pf_D5 (hp : PF k f p b I) (x g y : Int32) : PFu k f p b I (D5 k I F x g y) := by
  unfold D5
  refine pfu_u (pf_set hp _ _ _) (fun I1 h1 => ?_)
  rw [fm_want h1.1 (by decide), sb]
  exact pf_D6 h1 _ _
theorem pf_D4 (hp : PF k f p b I) (x g : Int32) : PFu k f p b I (D4 k I F x g) := by
  unfold D4
  exact pfu_o (fmo_pfo hp (fm_whole hp.1)) (fun v I1 h1 => pf_D5 h1 _ _ _)
theorem pf_D3 (hp : PF k f p b I) (x g : Int32) : PFu k f p b I (D3 k I F x g) := by
  unfold D3
  rw [fm_want hp.1 (by decide), sb]
  exact pf_D4 hp _ _
theorem pf_D2 (hp : PF k f p b I) (x : Int32) : PFu k f p b I (D2 k I F x) := by
  unfold D2
  rw [pf_freshE hp, sb]
  exact pf_D3 hp _ _
theorem pf_76 (hF : F 134 4 = k) (hp : PF k f p b I) (hb : b + 1 ≤ 10000) (x1 x2 : Int32) : PFu k f p (b + 1) I (mX3_readParams_76 I F x1 x2) := by
  unfold mX3_readParams_76
  rw [lf_s]
  exact pf_78p hF hp hb _ _ _ _
theorem pf_prR (hF : F 134 4 = k) (hp : PF k f p b I) (hb : b + 1 ≤ 10000) (x1 : Int32) : PFu k f p (b + 1) I (prR I F x1) := by
  unfold prR
  rw [fm_want hp.1 (by decide), sb, fm_is hp.1 (by decide), sb, if_pos rfl]
  exact pf_76 hF hp hb _ _
theorem pf_18 (hF : F 134 4 = k) (hb : b + 1 ≤ 10000) : ∀ (d i n : Nat) (I : iT) (x1 : Int32), i + d = 4 → d < n → PF k f p b I → PFu k f p (b + 1) I (mX3_readParams_18 n I F x1 (nI i)) := by
  intro d
  induction d with
  | zero =>
    intro i n I x1 hi hn hp
    obtain ⟨n, rfl⟩ : ∃ y, n = y + 1 := ⟨n - 1, by omega⟩
    have : i = 4 := by omega
    subst this
    exact pf_prR hF hp hb x1
  | succ d ih =>
    intro i n I x1 hi hn hp
    have hk := pf_k hp
    obtain ⟨n, rfl⟩ : ∃ y, n = y + 1 := ⟨n - 1, by omega⟩
    rw [mX3_readParams_18, if_neg (show ¬ (4 : Int32) ≤ nI i from nI_ge (b := 4) (by omega) (by omega)), hF, nI_1]
    exact pfu_o (pf_addB hp (by unfold rowB; omega) _) (fun v I1 h1 => ih (i + 1) n I1 x1 (by omega) (by omega) h1)
theorem pf_params (hF : F 134 4 = k) (hp : PF k f p b I) (hb : b + 1 ≤ 10000) : PFu k f p (b + 1) I (mX3_readParams I F) := by
  have hk := pf_k hp
  obtain ⟨h1, h2⟩ := pf_134 hp 6 (-1)
  have : PFu k f p (b + 1) (a_u2 I 134 6 (-1)) (mX3_readParams I F) := by
    unfold mX3_readParams
    rw [hF]
    refine pfu_r (fm_size h1.1 (by unfold rowA; omega)) (fun v => ?_)
    exact pf_18 hF hb 4 0 LF _ v rfl (by unfold LF; omega) h1
  obtain ⟨I', a1, a2, a3⟩ := this
  exact ⟨I', a1, a2, h2.trans a3⟩
theorem pf_D1 (hF : F 134 4 = k) (hp : PF k f p b I) (hb : b + 1 ≤ 10000) (x : Int32) : PFu k f p (b + 1) I (D1 k I F x) := by
  unfold D1
  exact pfu_u (pf_params hF hp hb) (fun I1 h1 => pf_D2 h1 x)
/-- what is there begins -/
theorem start_ok {a6 a8 a0 : List Int32} (hW : SW I a6 a8 a0) : ∃ I' b6 b8 b0, mX5_start I = some I' ∧ SW I' b6 b8 b0 ∧ I' 135 3 = nI 0 ∧ gI b0 0 = nI 1 ∧ gI b6 0 = 0 ∧ gI b8 0 = -1 ∧ (∀ i, i ≠ 0 → gI b0 i = gI a0 i) ∧ (∀ q, ¬ (135 ≤ q ∧ q ≤ 141) → I' q = I q) := by
  obtain ⟨w1, w2, w3, w4, w5, w6⟩ := hW
  have f1 : ∀ q, q ≠ 135 → (a_u2 I 135 3 0) q = I q := fun q w => au2_b _ _ w
  have hr : rowIs (a_u2 I 135 3 0) 140 a0 := w3.keep (f1 _ (by omega)) (f1 _ (by omega))
  obtain ⟨I1, a1, a2, a3⟩ := row_put hr (nI 0) 0
  rw [lput_nI _ (by omega)] at a2
  have hSW1 : SW I1 a6 a8 (a0.set 0 0) := ⟨w1.keep (by rw [a3 _ (by omega) (by omega), f1 _ (by omega)]) (by rw [a3 _ (by omega) (by omega), f1 _ (by omega)]), w2.keep (by rw [a3 _ (by omega) (by omega), f1 _ (by omega)]) (by rw [a3 _ (by omega) (by omega), f1 _ (by omega)]), a2, w4, w5, by rw [List.length_set]; exact w6⟩
  have e135 : I1 135 3 = nI 0 := by rw [a3 135 (by omega) (by omega), a_u2_s]; rfl
  obtain ⟨I2, b1, b2, b3⟩ := sw_add hSW1 (lv := 0) e135 (by omega) (m := 0) (by rw [gI_se (by omega)]; rfl) (by omega) 0 (-1)
  rw [Nat.zero_mul, Nat.zero_add] at b2
  refine ⟨I2, _, _, _, ?_, b2, by rw [b3 135 (by omega)]; exact e135, by rw [gI_se (by rw [List.length_set]; omega)], gI_se (by omega) _, gI_se (by omega) _, fun i hi => by rw [gI_sn hi, gI_sn hi], fun q w => by rw [b3 q (by omega), a3 q (by omega) (by omega), f1 q (by omega)]⟩
  unfold mX5_start
  have a1' : mX4_put 140 (a_u2 I 135 3 0) ((a_u2 I 135 3 0) 135 3) 0 = some I1 := by rw [a_u2_s]; exact a1
  rw [a1', sb, b1, sb]
theorem pf_D0 (hF : F 134 4 = k) (hp : PF k f p b I) (hb : b + 2 ≤ 10000) (x : Int32) : PFu k f p (b + 2) I (D0 k I F x) := by
  unfold D0
  obtain ⟨a6, a8, a0, lv, s1, s2, s3, s4⟩ := hp.2.1
  obtain ⟨I1, b6, b8, b0, a1, a2, a3, a4, a5, a6', a7, a8'⟩ := start_ok s1
  have hs : SCP (b + 1) I1 := by
    refine ⟨b6, b8, b0, 0, a2, a3, by omega, fun i hi => ?_⟩
    by_cases w : i = 0
    · subst w
      exact ⟨1, by omega, a4⟩
    · obtain ⟨s, y1, y2⟩ := s4 i hi
      exact ⟨s, by omega, by rw [a7 i w]; exact y2⟩
  obtain ⟨h1, h2⟩ := pf_sw hp hs (by omega) a8'
  obtain ⟨I', c1, c2, c3⟩ := pf_D1 hF h1 (by omega) x
  exact ⟨I', by rw [a1, sb]; exact c1, c2, h2.trans c3⟩
end
