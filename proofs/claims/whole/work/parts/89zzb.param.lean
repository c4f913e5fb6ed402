/-! PARAMS (pure): what is there while they are read -/
theorem i4m (d m : Nat) : (4 : Int32) * nI d + nI m = nI (4 * d + m) := by
  have : (4 : Int32) * nI d = nI (4 * d) := pk_mul 4 d
  rw [this, nI_add]
def QR (k h M : Nat) (L : lT) (I B : iT) (J : jT) (S : List Sl) (a6 a8 a0 : List Int32) : Prop :=
  SW I a6 a8 a0 ∧ (I 135 3 = nI 0 ∧ gI a0 0 = nI (S.length + 1) ∧ S.length ≤ 4 ∧ B 186 43 = nI S.length ∧ gI a6 0 = 0 ∧ gI a8 0 = -1) ∧ (∀ (i : Nat) (s : Sl), S[i]? = some s → (s.1 = 1 ∨ s.1 = 2) ∧ isN s.2.1 ∧ gI a6 (i + 1) = nI (cN s.2.1) ∧ gI a8 (i + 1) = (if s.1 = 2 then nI s.2.2.2.1 else -1) ∧ J 206 i = lN (rN s.2.1) ∧ B 208 i = (if s.1 = 1 then 0 else 2) ∧ (s.1 = 2 → B 209 i = nI s.2.2.1 ∧ s.2.2.2.2 ≤ 200 ∧ TR k L B J (fun v => 1400 * h ≤ v ∧ v < M) s.2.2.2.2 s.2.2.1 s.2.2.2.1 s.2.2.2.2)) ∧ dist S
section
variable {k h M : Nat} {L : lT} {I B : iT} {J : jT} {S : List Sl} {a6 a8 a0 : List Int32}
theorem qr_to {M' : Nat} {L' : lT} {I' B' : iT} {J' : jT} (H : QR k h M L I B J S a6 a8 a0) (hT : tabL k L) (hE : TE k L L') (hI : ∀ c, 135 ≤ c → c ≤ 141 → I' c = I c) (h43 : B' 186 43 = B 186 43) (h8 : ∀ i, B' 208 i = B 208 i) (h9 : ∀ i, B' 209 i = B 209 i) (h6 : ∀ i, J' 206 i = J 206 i) (hA : ∀ v, 1400 * h ≤ v → v < M → (B' 188 v = B 188 v ∧ B' 189 v = B 189 v ∧ B' 190 v = B 190 v ∧ B' 191 v = B 191 v ∧ J' 192 v = J 192 v)) (hM : M ≤ M') : QR k h M' L' I' B' J' S a6 a8 a0 := by
  obtain ⟨h1, ⟨y1, y2, y3, y4, y5⟩, h3, h4⟩ := H
  refine ⟨h1.keep hI, ⟨by rw [hI 135 (by omega) (by omega)]; exact y1, y2, y3, by rw [h43]; exact y4, y5⟩, fun i s hs => ?_, h4⟩
  obtain ⟨w1, w2, w3, w4, w5, w6, w7⟩ := h3 i s hs
  refine ⟨w1, w2, w3, w4, by rw [h6]; exact w5, by rw [h8]; exact w6, fun q => ?_⟩
  obtain ⟨v1, v2, v3⟩ := w7 q
  exact ⟨by rw [h9]; exact v1, v2, tr_to hT hE (fun v hv => hA v hv.1 hv.2) (fun v hv => ⟨hv.1, by omega⟩) _ _ _ _ _ (Nat.le_refl _) v3⟩
theorem qr_find (H : QR k h M L I B J S a6 a8 a0) {w : List Nat} (hw : isN w) : (∃ v v', mX5_find I (nI (cN w)) = some v ∧ v ≠ -1 ∧ mX12_slot B J (lN (rN w)) = some v' ∧ v' ≠ -1) ∨ ((∀ (i : Nat) (s : Sl), S[i]? = some s → s.2.1 ≠ w) ∧ mX5_find I (nI (cN w)) = some (-1) ∧ mX12_slot B J (lN (rN w)) = some (-1)) := by
  obtain ⟨h1, ⟨y1, y2, y3, y4, y5, y6⟩, h3, h4⟩ := H
  have hc := c5_find h1 (lv := 0) (m := S.length + 1) y1 (by omega) y2 (by omega) (x := nI (cN w)) (cN_ne0 hw)
  have hr := r5_find (J := J) y4 (by omega) (lN (rN w))
  by_cases q : ∃ (i : Nat) (s : Sl), S[i]? = some s ∧ s.2.1 = w
  · left
    obtain ⟨i, s, q1, q2⟩ := q
    have hi : i < S.length := (List.getElem?_eq_some_iff.mp q1).1
    obtain ⟨w1, w2, w3, w4, w5, w6, w7⟩ := h3 i s q1
    rcases hc with ⟨j, c1, c2, c3⟩ | ⟨c1, c2⟩
    · rcases hr with ⟨j', r1, r2, r3⟩ | ⟨r1, r2⟩
      · exact ⟨nI j, nI j', c3, nIm (by omega), r3, nIm (by omega)⟩
      · exact absurd (by rw [w5, q2]) (r1 i hi)
    · exact absurd (by rw [Nat.zero_mul, Nat.zero_add, w3, q2]) (c1 (i + 1) (by omega))
  · right
    have q' : ∀ (i : Nat) (s : Sl), S[i]? = some s → s.2.1 ≠ w := fun i s hs z => q ⟨i, s, hs, z⟩
    have hget : ∀ i, i < S.length → ∃ s, S[i]? = some s := fun i hi => ⟨_, List.getElem?_eq_getElem hi⟩
    refine ⟨q', ?_, ?_⟩
    · rcases hc with ⟨j, c1, c2, c3⟩ | ⟨c1, c2⟩
      · exfalso
        rw [Nat.zero_mul, Nat.zero_add] at c2
        cases j with
        | zero =>
          rw [y5] at c2
          exact cN_ne0 hw c2.symm
        | succ j =>
          obtain ⟨s, hs⟩ := hget j (by omega)
          obtain ⟨w1, w2, w3, _⟩ := h3 j s hs
          rw [w3] at c2
          exact q' j s hs ((cN_inj w2.1 hw.1 w2.2.2 hw.2.2).mp c2)
      · exact c2
    · rcases hr with ⟨j', r1, r2, r3⟩ | ⟨r1, r2⟩
      · exfalso
        obtain ⟨s, hs⟩ := hget j' r1
        obtain ⟨w1, w2, w3, w4, w5, _⟩ := h3 j' s hs
        rw [w5] at r2
        exact q' j' s hs ((rN_inj w2.1 hw.1 w2.2.2 hw.2.2).mp r2)
      · exact r2
/-- both look whether a NAME is free -/
theorem jfreeQ {bs : List Nat} {t : Tok} {r : List Tok} {b : Nat} (hC : CR I B J bs t r) (hRS : RS I k L) (hT : tabL k L) (H : QR k h M L I B J S a6 a8 a0) (hs : SCP b I) (hb : b ≤ 10000) :
    (∃ x I' B', mX3_readFreshThing I = some (x, I') ∧ mX12_isFree B J = some (0, B') ∧ PL k h b I B J I' B' J ∧ (∀ q, q ≠ 6 → I' q = I q)) ∨
    (∃ u r' I', t.1 = 256 ∧ isN t.2.1 ∧ (∀ (i : Nat) (s : Sl), S[i]? = some s → s.2.1 ≠ t.2.1) ∧ r = u :: r' ∧ mX3_readFreshThing I = some (nI (cN t.2.1), I') ∧ mX12_isFree B J = some (1, B) ∧ J 186 6 = lN (rN t.2.1) ∧ mX2_advance I = some I' ∧ cf I I') := by
  have er : B 186 3 = 2 ↔ t.1 = 256 := cr_r hC 256 (by decide)
  have ec : I 6 6 = 256 ↔ t.1 = 256 := cr_c hC 256 (by omega)
  by_cases q : t.1 = 256
  · have hwN : isN t.2.1 := (cr_wf hC).2.1 q
    have hval : I 6 7 = nI (cN t.2.1) := hC.1.2.2.1.1 q
    have hJ6 : J 186 6 = lN (rN t.2.1) := hC.2.1.2.2.2.1 q
    obtain ⟨u, r', I1, B1, J1, k1, k2, k3, k4, k5, k6, k7⟩ := jadv hC (by omega)
    have hR1 := cf_RS k6 hRS
    have hq1 : QR k h M L I1 B J S a6 a8 a0 := qr_to H hT TE.rfl (fun c q1 q2 => cf_b k6 (by omega)) rfl (fun _ => rfl) (fun _ => rfl) (fun _ => rfl) (fun _ _ _ => ⟨rfl, rfl, rfl, rfl, rfl⟩) (Nat.le_refl _)
    have eC : mX3_readFreshThing I = (mX5_find I1 (nI (cN t.2.1))).bind fun q2 => if q2 = -1 then some (nI (cN t.2.1), I1) else (mX2_refuse I1 2 (nI t.2.2)).bind fun q3 => some (nI (cN t.2.1), q3) := by
      unfold mX3_readFreshThing mX2_takeName
      rw [if_pos (ec.mpr q), k2, sb, sb, hval, cr_8 hC]
    unfold mX12_isFree
    rw [if_pos (er.mpr q), hJ6, eC]
    rcases qr_find hq1 hwN with ⟨v, v', f1, f2, f3, f4⟩ | ⟨f1, f2, f3⟩
    · left
      obtain ⟨I2, B2, a1, a2, a3⟩ := jbad2 hC hR1 (cr_9 k4) (cf_FX k6) h (f := 2) (by decide) (nI t.2.2)
      refine ⟨nI (cN t.2.1), I2, B2, ?_, ?_, fail_PL a3 hs hb, fun c w => by rw [ref_fr a1 c w]; exact cf_b k6 w⟩
      · rw [f1, sb, if_neg f2, a1, sb]
      · rw [f3, sb, if_neg f4, cr_4 hC, a2, sb, if_pos rfl]
    · right
      exact ⟨u, r', I1, q, hwN, f1, k1, by rw [f2, sb, if_pos rfl], by rw [f3, sb, if_pos rfl]; rfl, rfl, k2, k6⟩
  · left
    obtain ⟨I1, B1, a1, a2, a3, a4⟩ := jbad hC hRS h (f := 1) (by decide) (nI t.2.2)
    have hpl := fail_PL a3 hs hb
    have hex : mX3_readFreshThing I = some (0, I1) := by
      have hp : ∃ f p, PF k f p b I1 := by
        obtain ⟨f, p, g1, _⟩ := hpl
        exact ⟨f, p, g1⟩
      obtain ⟨f, p, hp⟩ := hp
      unfold mX3_readFreshThing mX2_takeName
      rw [if_neg (fun z => q (ec.mp z)), cr_8 hC, a1, sb, sb]
      obtain ⟨v, hv⟩ := pf_find hp 0
      show ((mX5_find I1 0).bind _) = _
      rw [hv, sb]
      show (if v = -1 then some (0, I1) else (mX2_refuse I1 2 (nI t.2.2)).bind fun q3 => some (0, q3)) = _
      rw [fm_refuse hp.1, sb, ite_self]
    refine ⟨0, I1, B1, hex, ?_, hpl, a4⟩
    unfold mX12_isFree
    rw [if_neg (fun z => q (er.mp z)), cr_4 hC, a2, sb, if_pos (Or.inl rfl)]
end
/-! the class's PARAMS in a failed reader -/
def pmS (K : iT → fT → Int32 → Int32 → Int32 → Option iT) (I : iT) (F : fT) (x1 x2 x3 : Int32) : Option iT := (mX2_skip I 44).bind fun q5 => if q5.1 = 0 then mX3_readParams_205 q5.2 F x1 x2 x3 else K q5.2 F x1 x2 (x3 + 1)
def pmT (K : iT → fT → Int32 → Int32 → Int32 → Option iT) (I : iT) (F : fT) (x1 x2 x3 pl x : Int32) : Option iT := if x3 < 4 then mX3_readParams_129 K I F x1 x2 x3 pl x else (mX2_refuse I 5 pl).bind fun q9 => mX3_readParams_129 K q9 F x1 x2 x3 pl x
section
variable {k : Nat} {f p : Int32} {b : Nat} {I : iT} {F : fT} {K : iT → fT → Int32 → Int32 → Int32 → Option iT}
theorem pf_addB (hp : PF k f p b I) {a : Nat} (ha : rowB k a) (x : Int32) : PFo k f p b I (mX4_add a I x) := fmo_pfo hp (fm_add hp.1 ha x)
theorem pf_205p (hF : F 134 4 = k) (hp : PF k f p b I) (x1 x2 x3 : Int32) : PFu k f p b I (mX3_readParams_205 I F x1 x2 x3) := by
  have hk := pf_k hp
  unfold mX3_readParams_205
  rw [fm_want hp.1 (by decide), sb, hF]
  exact pfu_o (pf_addB hp (by unfold rowB; omega) _) (fun x I1 h1 => pfu_ret h1)
theorem pf_pmS (hF : F 134 4 = k) (hp : PF k f p b I) (x1 x2 x3 : Int32) : PFu k f p b I (pmS K I F x1 x2 x3) := by
  unfold pmS
  rw [fm_skip hp.1 (by decide), sb, if_pos rfl]
  exact pf_205p hF hp _ _ _
theorem pf_152p (hF : F 134 4 = k) (hp : PF k f p b I) (hb : b + 1 ≤ 10000) (x1 x2 x3 x4 x5 s0 : Int32) : PFu k f p (b + 1) I (mX3_readParams_152 K I F x1 x2 x3 x4 x5 s0) := by
  have hk := pf_k hp
  unfold mX3_readParams_152
  rw [hF]
  exact pfu_u (pf_putB hp (by unfold rowB; omega) _ _) (fun I1 h1 => pfu_o (pf_add h1 hb _ _) (fun x I2 h2 => pf_pmS hF h2 _ _ _))
theorem pf_129p (hF : F 134 4 = k) (hp : PF k f p b I) (hb : b + 1 ≤ 10000) (x1 x2 x3 x4 x5 : Int32) : PFu k f p (b + 1) I (mX3_readParams_129 K I F x1 x2 x3 x4 x5) := by
  unfold mX3_readParams_129
  rw [fm_skip hp.1 (by decide), sb, if_pos rfl]
  exact pf_152p hF hp hb _ _ _ _ _ _
theorem pf_pmT (hF : F 134 4 = k) (hp : PF k f p b I) (hb : b + 1 ≤ 10000) (x1 x2 x3 pl x : Int32) : PFu k f p (b + 1) I (pmT K I F x1 x2 x3 pl x) := by
  unfold pmT
  rw [fm_refuse hp.1, sb]
  exact pfu_if (pf_129p hF hp hb _ _ _ _ _) (pf_129p hF hp hb _ _ _ _ _)
theorem pf_99p (hF : F 134 4 = k) (hp : PF k f p b I) (hb : b + 1 ≤ 10000) (x1 x2 x3 : Int32) : PFu k f p (b + 1) I (mX3_readParams_99 K I F x1 x2 x3) := by
  have e : mX3_readParams_99 K I F x1 x2 x3 = (mX3_readFreshThing I).bind fun q8 => pmT K q8.2 F x1 x2 x3 (I 6 8) q8.1 := rfl
  rw [e, pf_freshE hp, sb]
  exact pf_pmT hF hp hb _ _ _ _ _
theorem pf_78p (hF : F 134 4 = k) (hp : PF k f p b I) (hb : b + 1 ≤ 10000) (n : Nat) (x1 x2 x3 : Int32) : PFu k f p (b + 1) I (mX3_readParams_78 (n + 1) I F x1 x2 x3) := by
  rw [mX3_readParams_78, fm_is hp.1 (by decide), sb, if_pos rfl]
  exact pfu_if (pfu_mono (pf_205p hF hp _ _ _) (Nat.le_succ b) hb) (pfu_if (pf_99p hF hp hb _ _ _) (pf_99p hF hp hb _ _ _))
end
