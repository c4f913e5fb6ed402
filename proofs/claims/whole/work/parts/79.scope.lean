/-! WHAT IS THERE BY NAME, in both (pure) -/
/-- a place: 0 gone, 1 a NUMBER, 2 a CHANNEL; its NAME; its T: node, number, parts -/
abbrev Sl : Type := Nat × List Nat × Nat × Nat × Nat
def sg (n i : Nat) : Nat := if i = 0 then n else if i ≤ n then i - 1 else i
theorem sg_spec (n i : Nat) : (i = 0 ∧ sg n i = n) ∨ (1 ≤ i ∧ i ≤ n ∧ sg n i = i - 1) ∨ (n < i ∧ 1 ≤ i ∧ sg n i = i) := by
  unfold sg
  by_cases h : i = 0
  · rw [if_pos h]; omega
  rw [if_neg h]
  by_cases h2 : i ≤ n
  · rw [if_pos h2]; omega
  rw [if_neg h2]; omega
theorem sg_inj {n i j : Nat} (h : sg n i = sg n j) : i = j := by
  have h1 := sg_spec n i
  have h2 := sg_spec n j
  omega
theorem sg_lt {n i m : Nat} (hn : n < m) (hi : i < m) : sg n i < m := by
  have h1 := sg_spec n i
  omega
theorem sg_surj {n m j : Nat} (hn : n < m) (hj : j < m) : ∃ i, i < m ∧ sg n i = j := by
  by_cases h : j = n
  · exact ⟨0, by omega, by have := sg_spec n 0; omega⟩
  by_cases h2 : j < n
  · exact ⟨j + 1, by omega, by have := sg_spec n (j + 1); omega⟩
  · exact ⟨j, hj, by have := sg_spec n j; omega⟩
def SW (I : iT) (a6 a8 a0 : List Int32) : Prop := rowIs I 136 a6 ∧ rowIs I 138 a8 ∧ rowIs I 140 a0 ∧ a6.length = 765 ∧ a8.length = 765 ∧ a0.length = 9
theorem SW.keep {I I' : iT} {a6 a8 a0 : List Int32} (h : SW I a6 a8 a0) (hf : ∀ b, 135 ≤ b → b ≤ 141 → I' b = I b) : SW I' a6 a8 a0 := ⟨h.1.keep (hf _ (by omega) (by omega)) (hf _ (by omega) (by omega)), h.2.1.keep (hf _ (by omega) (by omega)) (hf _ (by omega) (by omega)), h.2.2.1.keep (hf _ (by omega) (by omega)) (hf _ (by omega) (by omega)), h.2.2.2⟩
theorem row_g {I : iT} {a : Nat} {l : List Int32} (h : rowIs I a l) {j : Nat} (hj : j < 2 ^ 31) : mX4_at a I (nI j) = some (gI l j) := by rw [row_at h, lat_g hj]
theorem i85 (lv j : Nat) : nI lv * 85 + nI j = nI (lv * 85 + j) := by
  have : nI lv * (85 : Int32) = nI (lv * 85) := pk_mul lv 85
  rw [this, nI_add]
theorem cN_pos {w : List Nat} (h : isN w) : 0 < cN w := by
  obtain ⟨h1, h2, h3⟩ := h
  cases w with
  | nil => exact absurd h2 (by decide)
  | cons d l =>
    have hd := (nam_cons h1).1
    show 0 < d * 32 ^ 5 + val 32 5 l
    have : 1 * 32 ^ 5 ≤ d * 32 ^ 5 := Nat.mul_le_mul_right _ hd.1
    omega
theorem rN_pos {w : List Nat} (h : isN w) : 0 < rN w := by
  obtain ⟨h1, h2, h3⟩ := h
  have := val_big (b := 256) (by omega) (up96 w) (nam_up h1) (by rw [up96_len]; omega)
  rw [up96_len] at this
  have p : 0 < 256 ^ (w.length - 1) := Nat.pow_pos (by omega)
  show 0 < val 256 w.length (up96 w)
  omega
theorem rN_ne0 {w : List Nat} (h : isN w) : lN (rN w) ≠ 0 := by
  intro q
  have h1 := rN_lt h.1 h.2.2
  have h2 := pf_lI (a := rN w) (by omega)
  rw [q] at h2
  have h3 := rN_pos h
  have e : (0 : Int64).toInt = 0 := by decide
  omega
theorem cN_ne0 {w : List Nat} (h : isN w) : nI (cN w) ≠ 0 := nI_ne0 (cN_pos h) (by have := cN_lt h.1; omega)
/-- the class looks a NAME up -/
theorem c5_find {I : iT} {a6 a8 a0 : List Int32} (hW : SW I a6 a8 a0) {lv m : Nat} (hl : I 135 3 = nI lv) (hlv : lv ≤ 8) (hm : gI a0 lv = nI m) (hm5 : m ≤ 85) {x : Int32} (hx : x ≠ 0) :
    (∃ i, i < m ∧ gI a6 (lv * 85 + i) = x ∧ mX5_find I x = some (nI i)) ∨ ((∀ i, i < m → gI a6 (lv * 85 + i) ≠ x) ∧ mX5_find I x = some (-1)) := by
  obtain ⟨h6, h8, h0, l6, l8, l0⟩ := hW
  have loop : ∀ d j n, j + d = m → d < n → (∀ i, i < j → gI a6 (lv * 85 + i) ≠ x) → (∃ i, i < m ∧ gI a6 (lv * 85 + i) = x ∧ mX5_find_2 n I x (nI j) = some (nI i)) ∨ ((∀ i, i < m → gI a6 (lv * 85 + i) ≠ x) ∧ mX5_find_2 n I x (nI j) = some (-1)) := by
    intro d
    induction d with
    | zero =>
      intro j n hj hn hno
      obtain ⟨n, rfl⟩ : ∃ y, n = y + 1 := ⟨n - 1, by omega⟩
      right
      refine ⟨fun i hi => hno i (by omega), ?_⟩
      rw [mX5_find_2, hl, row_g h0 (by omega), sb, hm, if_pos (nI_le (by omega) (by omega))]
    | succ d ih =>
      intro j n hj hn hno
      obtain ⟨n, rfl⟩ : ∃ y, n = y + 1 := ⟨n - 1, by omega⟩
      rw [mX5_find_2, hl, row_g h0 (by omega), sb, hm, if_neg (nI_ge (by omega) (by omega)), if_neg hx, i85, row_g h6 (by omega), sb]
      by_cases q : gI a6 (lv * 85 + j) = x
      · rw [if_pos q]
        exact Or.inl ⟨j, by omega, q, rfl⟩
      · rw [if_neg q]
        unfold mX5_find_43
        rw [nI_1]
        refine ih (j + 1) n (by omega) (by omega) (fun i hi => ?_)
        by_cases e : i = j
        · rw [e]; exact q
        · exact hno i (by omega)
  have := loop m 0 LF (by omega) (by unfold LF; omega) (fun i hi => by omega)
  rw [nI_0] at this
  exact this
theorem in128 {s : Nat} (h : s < 128) : inb (nI s) 128 := vp_in_nI h (by omega)
theorem cl128 {s : Nat} (h : s < 128) : (nI s).toNatClampNeg = s := nI_clamp (by omega)
/-- the reference looks a NAME up -/
theorem r5_find {B : iT} {J : jT} {mr : Nat} (hr : B 186 43 = nI mr) (hm5 : mr ≤ 85) (x : Int64) :
    (∃ i, i < mr ∧ J 206 i = x ∧ mX12_slot B J x = some (nI i)) ∨ ((∀ i, i < mr → J 206 i ≠ x) ∧ mX12_slot B J x = some (-1)) := by
  have loop : ∀ d j n, j + d = mr → d < n → (∀ i, i < j → J 206 i ≠ x) → (∃ i, i < mr ∧ J 206 i = x ∧ mX12_slot_2 n B J x (nI j) = some (nI i)) ∨ ((∀ i, i < mr → J 206 i ≠ x) ∧ mX12_slot_2 n B J x (nI j) = some (-1)) := by
    intro d
    induction d with
    | zero =>
      intro j n hj hn hno
      obtain ⟨n, rfl⟩ : ∃ y, n = y + 1 := ⟨n - 1, by omega⟩
      right
      refine ⟨fun i hi => hno i (by omega), ?_⟩
      rw [mX12_slot_2, hr, if_pos (nI_le (by omega) (by omega))]
    | succ d ih =>
      intro j n hj hn hno
      obtain ⟨n, rfl⟩ : ∃ y, n = y + 1 := ⟨n - 1, by omega⟩
      rw [mX12_slot_2, hr, if_neg (nI_ge (by omega) (by omega)), if_pos (in128 (by omega)), congrArg (J 206) (cl128 (by omega))]
      by_cases q : J 206 j = x
      · rw [if_pos ((lg_eq0 _ _).mpr q)]
        exact Or.inl ⟨j, by omega, q, rfl⟩
      · rw [if_neg (fun z => q ((lg_eq0 _ _).mp z)), nI_1]
        refine ih (j + 1) n (by omega) (by omega) (fun i hi => ?_)
        by_cases e : i = j
        · rw [e]; exact q
        · exact hno i (by omega)
  have := loop mr 0 LF (by omega) (by unfold LF; omega) (fun i hi => by omega)
  rw [nI_0] at this
  exact this
def SLC (a6 a8 : List Int32) (lv i : Nat) (s : Sl) : Prop := gI a6 (lv * 85 + i) = (if s.1 = 0 then 0 else nI (cN s.2.1)) ∧ gI a8 (lv * 85 + i) = (if s.1 = 2 then nI s.2.2.2.1 else -1)
def SLR (k h M : Nat) (L : lT) (B : iT) (J : jT) (n i : Nat) (s : Sl) : Prop := J 206 (sg n i) = (if s.1 = 0 then 0 else lN (rN s.2.1)) ∧ (s.1 ≠ 0 → isN s.2.1 ∧ B 208 (sg n i) = (if s.1 = 1 then 0 else if i = 0 then 1 else 2)) ∧ (s.1 = 2 → B 209 (sg n i) = nI s.2.2.1 ∧ s.2.2.2.2 ≤ 200 ∧ TR k L B J (fun v => 1400 * h ≤ v ∧ v < M) s.2.2.2.2 s.2.2.1 s.2.2.2.1 s.2.2.2.2)
def dist (S : List Sl) : Prop := ∀ (i j : Nat) (s s' : Sl), S[i]? = some s → S[j]? = some s' → s.1 ≠ 0 → s'.1 ≠ 0 → s.2.1 = s'.2.1 → i = j
/-- while a P is read: the places S, n PARAMS, level lv -/
def SR (k h M : Nat) (L : lT) (I B : iT) (J : jT) (n lv : Nat) (S : List Sl) (a6 a8 a0 : List Int32) : Prop :=
  SW I a6 a8 a0 ∧ (I 135 3 = nI lv ∧ lv ≤ 8 ∧ gI a0 lv = nI S.length ∧ n < S.length ∧ n ≤ 4 ∧ S.length ≤ 85 ∧ B 186 43 = nI S.length) ∧ (∀ i s, S[i]? = some s → s.1 ≤ 2 ∧ SLC a6 a8 lv i s ∧ SLR k h M L B J n i s) ∧ dist S ∧ ∃ s0, S[0]? = some s0 ∧ s0.1 = 2
/-- both look a NAME up -/
theorem sr_find {k h M : Nat} {L : lT} {I B : iT} {J : jT} {n lv : Nat} {S : List Sl} {a6 a8 a0 : List Int32} (H : SR k h M L I B J n lv S a6 a8 a0) {w : List Nat} (hw : isN w) :
    (∃ (i : Nat) (s : Sl), S[i]? = some s ∧ s.1 ≠ 0 ∧ s.2.1 = w ∧ mX5_find I (nI (cN w)) = some (nI i) ∧ mX12_slot B J (lN (rN w)) = some (nI (sg n i))) ∨ ((∀ (i : Nat) (s : Sl), S[i]? = some s → s.1 ≠ 0 → s.2.1 ≠ w) ∧ mX5_find I (nI (cN w)) = some (-1) ∧ mX12_slot B J (lN (rN w)) = some (-1)) := by
  obtain ⟨hW, ⟨h1, h2, h3, h4, h5, h6, h7⟩, hS, hD, _⟩ := H
  have hex : ∀ i, i < S.length → ∃ s, S[i]? = some s := fun i hi => ⟨S[i], List.getElem?_eq_getElem hi⟩
  -- a place whose name fits
  have fitC : ∀ i, i < S.length → gI a6 (lv * 85 + i) = nI (cN w) → ∃ s, S[i]? = some s ∧ s.1 ≠ 0 ∧ s.2.1 = w := by
    intro i hi e
    obtain ⟨s, hs⟩ := hex i hi
    obtain ⟨g1, g2, g3⟩ := hS i s hs
    have e2 := g2.1
    by_cases q : s.1 = 0
    · rw [if_pos q, e] at e2
      exact absurd e2 (cN_ne0 hw)
    · rw [if_neg q, e] at e2
      have hN := (g3.2.1 q).1
      exact ⟨s, hs, q, ((cN_inj hw.1 hN.1 hw.2.2 hN.2.2).mp e2).symm⟩
  have fitR : ∀ j, j < S.length → J 206 j = lN (rN w) → ∃ (i : Nat) (s : Sl), S[i]? = some s ∧ s.1 ≠ 0 ∧ s.2.1 = w ∧ sg n i = j := by
    intro j hj e
    obtain ⟨i, hi, hij⟩ := sg_surj h4 hj
    obtain ⟨s, hs⟩ := hex i hi
    obtain ⟨g1, g2, g3⟩ := hS i s hs
    have e2 := g3.1
    rw [hij] at e2
    by_cases q : s.1 = 0
    · rw [if_pos q, e] at e2
      exact absurd e2 (rN_ne0 hw)
    · rw [if_neg q, e] at e2
      have hN := (g3.2.1 q).1
      exact ⟨i, s, hs, q, ((rN_inj hw.1 hN.1 hw.2.2 hN.2.2).mp e2).symm, hij⟩
  rcases c5_find hW h1 h2 h3 h6 (cN_ne0 hw) with ⟨i, c1, c2, c3⟩ | ⟨c1, c2⟩
  · obtain ⟨s, s1, s2, s3⟩ := fitC i c1 c2
    have hJ : J 206 (sg n i) = lN (rN w) := by
      have := (hS i s s1).2.2.1
      rw [if_neg s2, s3] at this
      exact this
    rcases r5_find (J := J) h7 h6 (lN (rN w)) with ⟨j, r1, r2, r3⟩ | ⟨r1, r2⟩
    · obtain ⟨i', s', t1, t2, t3, t4⟩ := fitR j r1 r2
      have : i' = i := hD i' i s' s t1 s1 t2 s2 (by rw [t3, s3])
      subst this
      exact Or.inl ⟨i', s, s1, s2, s3, c3, by rw [t4]; exact r3⟩
    · exact absurd hJ (r1 _ (sg_lt h4 c1))
  · right
    have hno : ∀ (i : Nat) (s : Sl), S[i]? = some s → s.1 ≠ 0 → s.2.1 ≠ w := by
      intro i s s1 s2 s3
      have hi : i < S.length := (List.getElem?_eq_some_iff.mp s1).1
      have := (hS i s s1).2.1.1
      rw [if_neg s2, s3] at this
      exact c1 i hi this
    refine ⟨hno, c2, ?_⟩
    rcases r5_find (J := J) h7 h6 (lN (rN w)) with ⟨j, r1, r2, r3⟩ | ⟨r1, r2⟩
    · obtain ⟨i', s', t1, t2, t3, t4⟩ := fitR j r1 r2
      exact (hno i' s' t1 t2 t3).elim
    · exact r2
/-- the T at a place -/
theorem sr_talk {k h M : Nat} {L : lT} {I B : iT} {J : jT} {n lv : Nat} {S : List Sl} {a6 a8 a0 : List Int32} (H : SR k h M L I B J n lv S a6 a8 a0) {i : Nat} {s : Sl} (hs : S[i]? = some s) : mX5_talkAt I (nI i) = some (if s.1 = 2 then nI s.2.2.2.1 else -1) := by
  obtain ⟨hW, ⟨h1, h2, h3, h4, h5, h6, h7⟩, hS, hD, _⟩ := H
  have hi : i < S.length := (List.getElem?_eq_some_iff.mp hs).1
  have e : mX5_index I (nI i) = some (nI (lv * 85 + i)) := by
    unfold mX5_index
    rw [if_neg (nI_not0 (by omega)), if_neg (show ¬ (85 : Int32) ≤ nI i from nI_ge (b := 85) (by omega) (by omega)), h1, i85]
  unfold mX5_talkAt
  rw [e, sb, row_g hW.2.1 (by omega), sb, (hS i s hs).2.1.2]
theorem talk_m1 {I : iT} {a8 : List Int32} (h8 : rowIs I 138 a8) : mX5_talkAt I (-1) = some (-1) := by
  have e : mX5_index I (-1) = some (-1) := by
    unfold mX5_index
    rw [if_pos (by decide)]
  unfold mX5_talkAt
  rw [e, sb, row_at h8, sb, lat_neg (by decide)]
