/-! THE FAILED READER OF PROCESSES: Rows of a reader, and what is there (pure) -/
/-- the Rows of what is there stand; no size is above b -/
def SCP (b : Nat) (I : iT) : Prop := ∃ a6 a8 a0 lv, SW I a6 a8 a0 ∧ I 135 3 = nI lv ∧ lv ≤ 8 ∧ ∀ i, i < 9 → ∃ s, s ≤ b ∧ gI a0 i = nI s
def PF (k : Nat) (f p : Int32) (b : Nat) (I : iT) : Prop := FM k f p I ∧ SCP b I ∧ b ≤ 10000
def FP (k : Nat) (I I' : iT) : Prop := ∀ b, b ≠ 6 → ¬ (134 ≤ b ∧ b ≤ 146) → ¬ (k + 17 ≤ b ∧ b ≤ k + 60) → I' b = I b
theorem FP.rfl {k : Nat} {I : iT} : FP k I I := fun _ _ _ _ => Eq.refl _
theorem FP.trans {k : Nat} {I I1 I2 : iT} (h : FP k I I1) (g : FP k I1 I2) : FP k I I2 := fun b h1 h2 h3 => (g b h1 h2 h3).trans (h b h1 h2 h3)
theorem FY_FP {k : Nat} {I I1 : iT} (h : FY k I I1) : FP k I I1 := fun b h1 h2 h3 => h b h1 (by omega) h3
theorem SCP.mono {b b' : Nat} {I : iT} (h : SCP b I) (hb : b ≤ b') : SCP b' I := by
  obtain ⟨a6, a8, a0, lv, h1, h2, h3, h4⟩ := h
  refine ⟨a6, a8, a0, lv, h1, h2, h3, fun i hi => ?_⟩
  obtain ⟨s, s1, s2⟩ := h4 i hi
  exact ⟨s, by omega, s2⟩
theorem SCP.keep {b : Nat} {I I' : iT} (h : SCP b I) (hf : ∀ c, 135 ≤ c → c ≤ 141 → I' c = I c) : SCP b I' := by
  obtain ⟨a6, a8, a0, lv, h1, h2, h3, h4⟩ := h
  exact ⟨a6, a8, a0, lv, h1.keep hf, by rw [hf 135 (by omega) (by omega)]; exact h2, h3, h4⟩
def PFo {α : Type} (k : Nat) (f p : Int32) (c : Nat) (I : iT) (o : Option (α × iT)) : Prop := ∃ x I', o = some (x, I') ∧ PF k f p c I' ∧ FP k I I'
def PFu (k : Nat) (f p : Int32) (c : Nat) (I : iT) (o : Option iT) : Prop := ∃ I', o = some I' ∧ PF k f p c I' ∧ FP k I I'
section
variable {α β : Type} {k : Nat} {f p : Int32} {b b1 c : Nat} {I : iT}
theorem PF.mono (h : PF k f p b I) (hb : b ≤ c) (hc : c ≤ 10000) : PF k f p c I := ⟨h.1, h.2.1.mono hb, hc⟩
theorem pfo_ret (h : PF k f p c I) (x : α) : PFo k f p c I (some (x, I)) := ⟨x, I, rfl, h, FP.rfl⟩
theorem pfu_ret (h : PF k f p c I) : PFu k f p c I (some I) := ⟨I, rfl, h, FP.rfl⟩
theorem pfo_o {o : Option (α × iT)} (h : PFo k f p b1 I o) {g : α × iT → Option (β × iT)} (hg : ∀ x I', PF k f p b1 I' → PFo k f p c I' (g (x, I'))) : PFo k f p c I (o.bind g) := by
  obtain ⟨x, I1, e, h1, h2⟩ := h
  obtain ⟨y, I2, e2, h3, h4⟩ := hg x I1 h1
  exact ⟨y, I2, by rw [e]; exact e2, h3, h2.trans h4⟩
theorem pfo_u {o : Option iT} (h : PFu k f p b1 I o) {g : iT → Option (β × iT)} (hg : ∀ I', PF k f p b1 I' → PFo k f p c I' (g I')) : PFo k f p c I (o.bind g) := by
  obtain ⟨I1, e, h1, h2⟩ := h
  obtain ⟨y, I2, e2, h3, h4⟩ := hg I1 h1
  exact ⟨y, I2, by rw [e]; exact e2, h3, h2.trans h4⟩
theorem pfu_o {o : Option (α × iT)} (h : PFo k f p b1 I o) {g : α × iT → Option iT} (hg : ∀ x I', PF k f p b1 I' → PFu k f p c I' (g (x, I'))) : PFu k f p c I (o.bind g) := by
  obtain ⟨x, I1, e, h1, h2⟩ := h
  obtain ⟨I2, e2, h3, h4⟩ := hg x I1 h1
  exact ⟨I2, by rw [e]; exact e2, h3, h2.trans h4⟩
theorem pfu_u {o : Option iT} (h : PFu k f p b1 I o) {g : iT → Option iT} (hg : ∀ I', PF k f p b1 I' → PFu k f p c I' (g I')) : PFu k f p c I (o.bind g) := by
  obtain ⟨I1, e, h1, h2⟩ := h
  obtain ⟨I2, e2, h3, h4⟩ := hg I1 h1
  exact ⟨I2, by rw [e]; exact e2, h3, h2.trans h4⟩
theorem pfo_r {o : Option α} (h : ∃ v, o = some v) {g : α → Option (β × iT)} (hg : ∀ v, PFo k f p c I (g v)) : PFo k f p c I (o.bind g) := by
  obtain ⟨v, e⟩ := h
  rw [e]; exact hg v
theorem pfu_r {o : Option α} (h : ∃ v, o = some v) {g : α → Option iT} (hg : ∀ v, PFu k f p c I (g v)) : PFu k f p c I (o.bind g) := by
  obtain ⟨v, e⟩ := h
  rw [e]; exact hg v
theorem pfo_if {d : Prop} [Decidable d] {a e : Option (α × iT)} (ha : PFo k f p c I a) (hb : PFo k f p c I e) : PFo k f p c I (if d then a else e) := by
  by_cases h : d
  · rw [if_pos h]; exact ha
  · rw [if_neg h]; exact hb
theorem pfu_if {d : Prop} [Decidable d] {a e : Option iT} (ha : PFu k f p c I a) (hb : PFu k f p c I e) : PFu k f p c I (if d then a else e) := by
  by_cases h : d
  · rw [if_pos h]; exact ha
  · rw [if_neg h]; exact hb
theorem fmo_pfo {o : Option (α × iT)} (hp : PF k f p b I) (h : FMo k f p I o) : PFo k f p b I o := by
  obtain ⟨x, I', e1, e2, e3⟩ := h
  have hk : k = 12 ∨ k = 73 := hp.1.1.elim fun _ z => z.1
  exact ⟨x, I', e1, ⟨e2, hp.2.1.keep (fun c q1 q2 => e3 c (by omega) (by omega) (by omega)), hp.2.2⟩, FY_FP e3⟩
theorem fmu_pfu {o : Option iT} (hp : PF k f p b I) (h : FMu k f p I o) : PFu k f p b I o := by
  obtain ⟨I', e1, e2, e3⟩ := h
  have hk : k = 12 ∨ k = 73 := hp.1.1.elim fun _ z => z.1
  exact ⟨I', e1, ⟨e2, hp.2.1.keep (fun c q1 q2 => e3 c (by omega) (by omega) (by omega)), hp.2.2⟩, FY_FP e3⟩
/-- a change of what is there alone -/
theorem pf_sw (hp : PF k f p b I) {I' : iT} (hs : SCP c I') (hc : c ≤ 10000) (hf : ∀ q, ¬ (135 ≤ q ∧ q ≤ 141) → I' q = I q) : PF k f p c I' ∧ FP k I I' := by
  obtain ⟨L, hL⟩ := hp.1.1
  have hk := hL.1
  refine ⟨⟨fm_of hp.1 (hf 6 (by omega)) (rs_keep hL (fun a ha => ?_)), hs, hc⟩, fun q h1 h2 h3 => hf q (by omega)⟩
  unfold rowA at ha
  exact ⟨hf a (by omega), hf (a + 1) (by omega)⟩
theorem pf_at136 (hp : PF k f p b I) (x : Int32) : ∃ v, mX4_at 136 I x = some v := by
  obtain ⟨a6, a8, a0, lv, h1, h2, h3, h4⟩ := hp.2.1
  exact ⟨_, row_at h1.1 x⟩
theorem pf_at138 (hp : PF k f p b I) (x : Int32) : ∃ v, mX4_at 138 I x = some v := by
  obtain ⟨a6, a8, a0, lv, h1, h2, h3, h4⟩ := hp.2.1
  exact ⟨_, row_at h1.2.1 x⟩
theorem pf_index (I : iT) (x : Int32) : ∃ v, mX5_index I x = some v := by
  unfold mX5_index
  by_cases q : x < 0
  · rw [if_pos q]; exact ⟨_, rfl⟩
  · rw [if_neg q]
    by_cases q2 : (85 : Int32) ≤ x
    · rw [if_pos q2]; exact ⟨_, rfl⟩
    · rw [if_neg q2]; exact ⟨_, rfl⟩
theorem pf_talk (hp : PF k f p b I) (x : Int32) : ∃ v, mX5_talkAt I x = some v := by
  obtain ⟨v, e⟩ := pf_index I x
  obtain ⟨v2, e2⟩ := pf_at138 hp v
  exact ⟨v2, by unfold mX5_talkAt; rw [e, sb, e2, sb]⟩
theorem pf_find (hp : PF k f p b I) (x : Int32) : ∃ v, mX5_find I x = some v := by
  obtain ⟨a6, a8, a0, lv, h1, h2, h3, h4⟩ := hp.2.1
  obtain ⟨m, m1, m2⟩ := h4 lv (by omega)
  have hb := hp.2.2
  have loop : ∀ d j n, j + d = m → d < n → ∃ v, mX5_find_2 n I x (nI j) = some v := by
    intro d
    induction d with
    | zero =>
      intro j n hj hn
      obtain ⟨n, rfl⟩ : ∃ y, n = y + 1 := ⟨n - 1, by omega⟩
      exact ⟨-1, by rw [mX5_find_2, h2, row_g h1.2.2.1 (by omega), sb, m2, if_pos (nI_le (by omega) (by omega))]⟩
    | succ d ih =>
      intro j n hj hn
      obtain ⟨n, rfl⟩ : ∃ y, n = y + 1 := ⟨n - 1, by omega⟩
      obtain ⟨v, e⟩ := ih (j + 1) n (by omega) (by omega)
      rw [mX5_find_2, h2, row_g h1.2.2.1 (by omega), sb, m2, if_neg (nI_ge (by omega) (by omega))]
      unfold mX5_find_43
      rw [nI_1]
      by_cases q : x = 0
      · rw [if_pos q]; exact ⟨v, e⟩
      · rw [if_neg q, row_at h1.1, sb]
        by_cases q2 : lat a6 (nI lv * 85 + nI j) = x
        · rw [if_pos q2]; exact ⟨_, rfl⟩
        · rw [if_neg q2]; exact ⟨v, e⟩
  have := loop m 0 LF (by omega) (by unfold LF; omega)
  rw [nI_0] at this
  exact this
theorem pf_has (hp : PF k f p b I) : ∃ v, mX5_hasChannels I = some v := by
  obtain ⟨a6, a8, a0, lv, h1, h2, h3, h4⟩ := hp.2.1
  obtain ⟨m, m1, m2⟩ := h4 lv (by omega)
  have hb := hp.2.2
  have loop : ∀ d j n, m ≤ j + d → j + d < 20000 → d < n → ∃ v, mX5_hasChannels_2 n I (nI j) = some v := by
    intro d
    induction d with
    | zero =>
      intro j n hj hb2 hn
      obtain ⟨n, rfl⟩ : ∃ y, n = y + 1 := ⟨n - 1, by omega⟩
      exact ⟨0, by rw [mX5_hasChannels_2, h2, row_g h1.2.2.1 (by omega), sb, m2, if_pos (nI_le (by omega) (by omega))]⟩
    | succ d ih =>
      intro j n hj hb2 hn
      obtain ⟨n, rfl⟩ : ∃ y, n = y + 1 := ⟨n - 1, by omega⟩
      obtain ⟨v, e⟩ := ih (j + 1) n (by omega) (by omega) (by omega)
      rw [mX5_hasChannels_2, h2, row_g h1.2.2.1 (by omega), sb, m2, nI_1]
      by_cases q : nI m ≤ nI j
      · rw [if_pos q]; exact ⟨_, rfl⟩
      · rw [if_neg q, row_at h1.2.1, sb]
        by_cases q2 : lat a8 (nI lv * 85 + nI j) = -1
        · rw [if_pos q2]; exact ⟨v, e⟩
        · rw [if_neg q2]; exact ⟨_, rfl⟩
  exact loop m 1 LF (by omega) (by omega) (by unfold LF; omega)
theorem sw_put6 {a6 a8 a0 : List Int32} (h : SW I a6 a8 a0) (x v : Int32) : ∃ I', mX4_put 136 I x v = some I' ∧ SW I' (lput a6 x v) a8 a0 ∧ (∀ q, ¬ (136 ≤ q ∧ q ≤ 137) → I' q = I q) := by
  obtain ⟨I', e, r⟩ := row_put h.1 x v
  have hl : (lput a6 x v).length = a6.length := by
    unfold lput
    by_cases q : x < 0
    · rw [if_pos q]
    · rw [if_neg q, List.length_set]
  exact ⟨I', e, ⟨r.1, h.2.1.keep (r.2 _ (by omega) (by omega)) (r.2 _ (by omega) (by omega)), h.2.2.1.keep (r.2 _ (by omega) (by omega)) (r.2 _ (by omega) (by omega)), by rw [hl]; exact h.2.2.2.1, h.2.2.2.2⟩, fun q z => r.2 q (by omega) (by omega)⟩
theorem sw_put8 {a6 a8 a0 : List Int32} (h : SW I a6 a8 a0) (x v : Int32) : ∃ I', mX4_put 138 I x v = some I' ∧ SW I' a6 (lput a8 x v) a0 ∧ (∀ q, ¬ (138 ≤ q ∧ q ≤ 139) → I' q = I q) := by
  obtain ⟨I', e, r⟩ := row_put h.2.1 x v
  have hl : (lput a8 x v).length = a8.length := by
    unfold lput
    by_cases q : x < 0
    · rw [if_pos q]
    · rw [if_neg q, List.length_set]
  exact ⟨I', e, ⟨h.1.keep (r.2 _ (by omega) (by omega)) (r.2 _ (by omega) (by omega)), r.1, h.2.2.1.keep (r.2 _ (by omega) (by omega)) (r.2 _ (by omega) (by omega)), h.2.2.2.1, by rw [hl]; exact h.2.2.2.2.1, h.2.2.2.2.2⟩, fun q z => r.2 q (by omega) (by omega)⟩
theorem pf_set (hp : PF k f p b I) (x y z : Int32) : PFu k f p b I (mX5_set I x y z) := by
  obtain ⟨a6, a8, a0, lv, h1, h2, h3, h4⟩ := hp.2.1
  obtain ⟨v, e⟩ := pf_index I x
  obtain ⟨I1, e1, r1, f1⟩ := sw_put6 h1 v y
  obtain ⟨v2, e2⟩ := pf_index I1 x
  obtain ⟨I2, e3, r2, f2⟩ := sw_put8 r1 v2 z
  have hf : ∀ q, ¬ (136 ≤ q ∧ q ≤ 139) → I2 q = I q := fun q w => by rw [f2 q (by omega), f1 q (by omega)]
  obtain ⟨g1, g2⟩ := pf_sw hp (I' := I2) (c := b) ⟨_, _, _, lv, r2, by rw [hf 135 (by omega)]; exact h2, h3, h4⟩ hp.2.2 (fun q w => hf q (by omega))
  exact ⟨I2, by unfold mX5_set; rw [e, sb, e1, sb, e2, sb, e3, sb], g1, g2⟩
theorem pf_drop (hp : PF k f p b I) (x : Int32) : PFu k f p b I (mX5_drop I x) := pf_set hp x 0 (-1)
theorem pf_setTalk (hp : PF k f p b I) (x y : Int32) : PFu k f p b I (mX5_setTalk I x y) := by
  obtain ⟨a6, a8, a0, lv, h1, h2, h3, h4⟩ := hp.2.1
  obtain ⟨v, e⟩ := pf_index I x
  obtain ⟨I2, e3, r2, f2⟩ := sw_put8 h1 v y
  obtain ⟨g1, g2⟩ := pf_sw hp (I' := I2) (c := b) ⟨_, _, _, lv, r2, by rw [f2 135 (by omega)]; exact h2, h3, h4⟩ hp.2.2 (fun q w => f2 q (by omega))
  exact ⟨I2, by unfold mX5_setTalk; rw [e, sb, e3, sb], g1, g2⟩
theorem pf_add (hp : PF k f p b I) (hb : b + 1 ≤ 10000) (x y : Int32) : PFo k f p (b + 1) I (mX5_add I x y) := by
  obtain ⟨a6, a8, a0, lv, h1, h2, h3, h4⟩ := hp.2.1
  obtain ⟨m, m1, m2⟩ := h4 lv (by omega)
  obtain ⟨v, e⟩ := pf_index I (nI m)
  obtain ⟨I1, e1, r1, f1⟩ := sw_put6 h1 v x
  obtain ⟨v2, e2⟩ := pf_index I1 (nI m)
  obtain ⟨I2, e3, r2, f2⟩ := sw_put8 r1 v2 y
  have hf : ∀ q, ¬ (136 ≤ q ∧ q ≤ 139) → I2 q = I q := fun q w => by rw [f2 q (by omega), f1 q (by omega)]
  have hl2 : I2 135 3 = nI lv := by rw [hf 135 (by omega)]; exact h2
  obtain ⟨I3, e4, r3⟩ := row_bump r2.2.2.1 (nI lv) 1
  have eb : lbump a0 (nI lv) 1 = a0.set lv (nI (m + 1)) := by
    unfold lbump
    rw [if_neg (nI_not0 (by omega)), nI_clamp (by omega), ← nI_1, ← m2]; rfl
  rw [eb] at r3
  have hl0 : a0.length = 9 := h1.2.2.2.2.2
  obtain ⟨g1, g2⟩ := pf_sw hp (I' := I3) (c := b + 1) ⟨_, _, a0.set lv (nI (m + 1)), lv, ⟨r2.1.keep (r3.2 _ (by omega) (by omega)) (r3.2 _ (by omega) (by omega)), r2.2.1.keep (r3.2 _ (by omega) (by omega)) (r3.2 _ (by omega) (by omega)), r3.1, r2.2.2.2.1, r2.2.2.2.2.1, by rw [List.length_set]; exact hl0⟩, by rw [r3.2 135 (by omega) (by omega)]; exact hl2, h3, fun i hi => by
    by_cases z : i = lv
    · subst z
      exact ⟨m + 1, by omega, gI_se (by omega) _⟩
    · obtain ⟨s, s1, s2⟩ := h4 i hi
      exact ⟨s, by omega, by rw [gI_sn z]; exact s2⟩⟩ hb (fun q w => by rw [r3.2 q (by omega) (by omega), hf q (by omega)])
  refine ⟨nI m, I3, ?_, g1, g2⟩
  unfold mX5_add mX5_set
  rw [h2, row_g h1.2.2.1 (by omega), sb, m2, e, sb, e1, sb, e2, sb, e3, sb, sb, hl2, e4, sb]
theorem pf_leave (hp : PF k f p b I) : PFu k f p b I (mX5_leave I) := by
  obtain ⟨a6, a8, a0, lv, h1, h2, h3, h4⟩ := hp.2.1
  have hv : ∃ l2, l2 ≤ 8 ∧ (if (I 135 3 - 1) < 0 then (0 : Int32) else (I 135 3 - 1)) = nI l2 := by
    rw [h2]
    cases lv with
    | zero => exact ⟨0, by omega, by decide⟩
    | succ l =>
      rw [nI_pred, if_neg (nI_not0 (by omega))]
      exact ⟨l, by omega, rfl⟩
  obtain ⟨l2, l3, l4⟩ := hv
  have hf : ∀ q, q ≠ 135 → (a_u2 I 135 3 (nI l2)) q = I q := fun q w => a_u2_r _ _ w
  obtain ⟨g1, g2⟩ := pf_sw hp (I' := a_u2 I 135 3 (nI l2)) (c := b) ⟨a6, a8, a0, l2, ⟨h1.1.keep (hf _ (by omega)) (hf _ (by omega)), h1.2.1.keep (hf _ (by omega)) (hf _ (by omega)), h1.2.2.1.keep (hf _ (by omega)) (hf _ (by omega)), h1.2.2.2⟩, a_u2_s _ _ _ _, l3, h4⟩ hp.2.2 (fun q w => hf q (by omega))
  exact ⟨_, by unfold mX5_leave; rw [l4], g1, g2⟩
theorem pf_enter (hp : PF k f p b I) : PFu k f p b I (mX5_enter I) := by
  obtain ⟨a6, a8, a0, lv, h1, h2, h3, h4⟩ := hp.2.1
  obtain ⟨m, m1, m2⟩ := h4 lv (by omega)
  have hb := hp.2.2
  by_cases hl8 : lv < 8
  · have f1 : ∀ q, q ≠ 135 → (a_u2 I 135 3 (nI (lv + 1))) q = I q := fun q w => a_u2_r _ _ w
    have k0 : rowIs (a_u2 I 135 3 (nI (lv + 1))) 140 a0 := h1.2.2.1.keep (f1 _ (by omega)) (f1 _ (by omega))
    obtain ⟨I2, e2, r2⟩ := row_put k0 (nI (lv + 1)) (nI m)
    rw [lput_nI _ (by omega)] at r2
    have w2 : SW I2 a6 a8 (a0.set (lv + 1) (nI m)) := ⟨h1.1.keep (by rw [r2.2 _ (by omega) (by omega), f1 _ (by omega)]) (by rw [r2.2 _ (by omega) (by omega), f1 _ (by omega)]), h1.2.1.keep (by rw [r2.2 _ (by omega) (by omega), f1 _ (by omega)]) (by rw [r2.2 _ (by omega) (by omega), f1 _ (by omega)]), r2.1, h1.2.2.2.1, h1.2.2.2.2.1, by rw [List.length_set]; exact h1.2.2.2.2.2⟩
    have loop : ∀ d j fu (I3 : iT) (b6 b8 : List Int32) (x1 : Int32), j + d = m → d < fu → SW I3 b6 b8 (a0.set (lv + 1) (nI m)) → ∃ I' c6 c8, mX5_enter_56 fu I3 x1 (nI m) (nI j) = some I' ∧ SW I' c6 c8 (a0.set (lv + 1) (nI m)) ∧ (∀ q, ¬ (136 ≤ q ∧ q ≤ 139) → I' q = I3 q) := by
      intro d
      induction d with
      | zero =>
        intro j fu I3 b6 b8 x1 hj hfu hw
        obtain ⟨fu, rfl⟩ : ∃ y, fu = y + 1 := ⟨fu - 1, by omega⟩
        exact ⟨I3, b6, b8, by rw [mX5_enter_56, if_pos (nI_le (by omega) (by omega))], hw, fun _ _ => rfl⟩
      | succ d ih =>
        intro j fu I3 b6 b8 x1 hj hfu hw
        obtain ⟨fu, rfl⟩ : ∃ y, fu = y + 1 := ⟨fu - 1, by omega⟩
        obtain ⟨I4, e4, r4, f4⟩ := sw_put6 hw (x1 + 85 + nI j) (lat b6 (x1 + nI j))
        obtain ⟨I5, e5, r5, f5⟩ := sw_put8 r4 (x1 + 85 + nI j) (lat b8 (x1 + nI j))
        obtain ⟨I', c6, c8, y1, y2, y3⟩ := ih (j + 1) fu I5 _ _ x1 (by omega) (by omega) r5
        refine ⟨I', c6, c8, ?_, y2, fun q z => by rw [y3 q z, f5 q (by omega), f4 q (by omega)]⟩
        rw [mX5_enter_56, if_neg (nI_ge (by omega) (by omega)), row_at hw.1, sb, e4, sb, row_at r4.2.1, sb, e5, sb, nI_1]
        exact y1
    obtain ⟨I', c6, c8, y1, y2, y3⟩ := loop m 0 LF I2 a6 a8 (nI lv * 85) (by omega) (by unfold LF; omega) w2
    have e1 : (a_u2 I 135 3 (nI (lv + 1))) 135 3 = nI (lv + 1) := a_u2_s _ _ _ _
    obtain ⟨g1, g2⟩ := pf_sw hp (I' := I') (c := b) ⟨c6, c8, _, lv + 1, y2, by rw [y3 135 (by omega), r2.2 135 (by omega) (by omega), a_u2_s], by omega, fun i hi => by
      by_cases z : i = lv + 1
      · subst z
        exact ⟨m, m1, gI_se (by have := h1.2.2.2.2.2; omega) _⟩
      · obtain ⟨s, s1, s2⟩ := h4 i hi
        exact ⟨s, s1, by rw [gI_sn z]; exact s2⟩⟩ hb (fun q w => by rw [y3 q (by omega), r2.2 q (by omega) (by omega), f1 q (by omega)])
    refine ⟨I', ?_, g1, g2⟩
    unfold mX5_enter
    rw [h2, if_pos (show nI lv < 8 from nI_lt (b := 8) hl8 (by omega)), nI_1, e1, nI_pred, row_g k0 (by omega), sb, m2, e2, sb, ← nI_0]
    exact y1
  · refine ⟨I, ?_, hp, FP.rfl⟩
    unfold mX5_enter
    rw [h2, if_neg (show ¬ nI lv < 8 from nI_nlt (b := 8) (by omega) (by omega))]
end
