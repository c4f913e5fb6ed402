/-! ARGS go to their places, in both (pure) -/
theorem ars_1 {ps G G1 : Gm} {src : Nat → Nat} {t0 : Nat} (H : ARS ps G G1 src) : ARS ((1, t0) :: ps) G G1 (fun j => src (j - 1)) := by
  obtain ⟨s1, s2, s3, s4, s5⟩ := H
  have no : ∀ t, ¬ ((1, t0) :: ps)[0]? = some (2, t) := fun t h => absurd (congrArg Prod.fst (Option.some.inj h)) (show (1 : Nat) ≠ 2 by omega)
  refine ⟨fun j t h => ?_, fun j j' t t' h h' he => ?_, fun i s tt hs h => ?_, s4, s5⟩
  · cases j with
    | zero => exact absurd h (no t)
    | succ j => exact s1 j t h
  · cases j with
    | zero => exact absurd h (no t)
    | succ j =>
      cases j' with
      | zero => exact absurd h' (no t')
      | succ j' => rw [s2 j j' t t' h h' he]
  · obtain ⟨w1, w2⟩ := s3 i s tt hs h
    refine ⟨w1, fun j t hj => ?_⟩
    cases j with
    | zero => exact absurd hj (no t)
    | succ j => exact w2 j t hj
theorem ars_2 {ps G G1 : Gm} {src : Nat → Nat} {t0 i : Nat} (hi : 1 ≤ i) (hg : G[i]? = some (2, t0)) (H : ARS ps (G.set i (0, 0)) G1 src) : ARS ((2, t0) :: ps) G G1 (fun j => Nat.rec i (fun y _ => src y) j) := by
  obtain ⟨s1, s2, s3, s4, s5⟩ := H
  have hil : i < G.length := (List.getElem?_eq_some_iff.mp hg).1
  have gs : ∀ y s tt, s ≠ 0 → (G.set i (0, 0))[y]? = some (s, tt) → y ≠ i ∧ G[y]? = some (s, tt) := by
    intro y s tt hs h
    by_cases e : y = i
    · subst e
      rw [List.getElem?_set_self hil] at h
      have := (Prod.mk.inj (Option.some.inj h)).1
      exact absurd this.symm hs
    · rw [List.getElem?_set_ne (fun z => e z.symm)] at h
      exact ⟨e, h⟩
  refine ⟨fun j t h => ?_, fun j j' t t' h h' he => ?_, fun y s tt hs h => ?_, by rw [s4, List.length_set], by rw [s5, List.getElem?_set_ne (by omega)]⟩
  · cases j with
    | zero =>
      have := pair2 h
      rw [this] at hg
      exact ⟨hi, hg⟩
    | succ j =>
      obtain ⟨w1, w2⟩ := s1 j t h
      exact ⟨w1, (gs _ _ _ (by decide) w2).2⟩
  · cases j with
    | zero =>
      cases j' with
      | zero => rfl
      | succ j' =>
        have he' : i = src j' := he
        exact absurd he'.symm (gs _ _ _ (by decide) (s1 j' t' h').2).1
    | succ j =>
      cases j' with
      | zero =>
        have he' : src j = i := he
        exact absurd he' (gs _ _ _ (by decide) (s1 j t h).2).1
      | succ j' =>
        have he' : src j = src j' := he
        rw [s2 j j' t t' h h' he']
  · obtain ⟨w1, w2⟩ := s3 y s tt hs h
    obtain ⟨w3, w4⟩ := gs _ _ _ hs w1
    refine ⟨w4, fun j t hj => ?_⟩
    cases j with
    | zero => exact fun z => w3 z.symm
    | succ j => exact w2 j t hj
section
variable {k p n : Nat} {L : lT} {B0 : iT} {Q : Nat → Prop} {sc sr : Nat → Int32}
theorem ar_ok (hk : k = 12 ∨ k = 73) (hp : p < 80) (hn : n ≤ 4) (hL : (L (k + 19)).length ≤ 1000) (hL9 : (L (k + 59)).length ≤ 500) : ∀ (ps Γ : Gm) (x : Int32) (a : Nat) (Γ1 : Gm), argR k n L B0 Q ps Γ x a Γ1 → Γ.length ≤ 85 → (∀ j, nsG Γ j → sc j = sr j) → ∃ (src : Nat → Nat) (vc vr : List Int32), ARS ps Γ Γ1 src ∧ vc.length = ps.length ∧ vr.length = ps.length ∧ (∀ (j t : Nat), ps[j]? = some (1, t) → gI vc j = gI vr j) ∧ (∀ (j t : Nat), ps[j]? = some (2, t) → gI vc j = sc (src j) ∧ gI vr j = sr (src j)) ∧ GAc k p a L sc ps vc ∧ GAr p n B0 sr x ps vr := by
  intro ps
  induction ps with
  | nil =>
    intro Γ x a Γ1 h hl hs
    obtain ⟨h1, rfl⟩ := h
    obtain ⟨a1, a2⟩ := ar_nil (k := k) (p := p) (n := n) (L := L) (B0 := B0) (sc := sc) (sr := sr) x a h1
    exact ⟨fun _ => 0, [], [], ⟨fun j t h => (by cases h), fun j j' t t' h => (by cases h), fun i s tt _ h => ⟨h, fun j t h => (by cases h)⟩, rfl, rfl⟩, rfl, rfl, fun j t h => (by cases h), fun j t h => (by cases h), a1, a2⟩
  | cons q ps ih =>
    intro Γ x a Γ1 h hl hs
    obtain ⟨s0, t0⟩ := q
    obtain ⟨b, b1, b2, b3, b4, ⟨h1, h2, e, root, f, d, h3, h4, h5, h6⟩ | ⟨h1, h2, i, h3, h4, h5, h6, h7⟩⟩ := h
    · have h1' : s0 = 1 := h1
      subst h1' b1
      obtain ⟨src, vc, vr, i1, i2, i3, i4, i5, i6, i7⟩ := ih _ _ _ _ h6 hl hs
      obtain ⟨v, g1, g2⟩ := ar_num (t := t0) hk hp hn hL hL9 hl hs b2 b4 h2 h3 h4 h5 i6 i7
      refine ⟨_, v :: vc, v :: vr, ars_1 i1, by rw [List.length_cons, i2, List.length_cons], by rw [List.length_cons, i3, List.length_cons], fun j t hj => ?_, fun j t hj => ?_, g1, g2⟩
      · cases j with
        | zero => rfl
        | succ j => rw [gI_cs, gI_cs]; exact i4 j t hj
      · cases j with
        | zero => exact absurd (congrArg Prod.fst (Option.some.inj hj)) (show (1 : Nat) ≠ 2 by omega)
        | succ j => rw [gI_cs, gI_cs]; exact i5 j t hj
    · have h1' : s0 = 2 := h1
      subst h1' b1
      have hil : i < Γ.length := (List.getElem?_eq_some_iff.mp h4).1
      obtain ⟨src, vc, vr, i1, i2, i3, i4, i5, i6, i7⟩ := ih _ _ _ _ h7 (by rw [List.length_set]; exact hl) (fun j hj => hs j (by
        obtain ⟨t, ht⟩ := hj
        rw [List.getElem?_set] at ht
        by_cases c : i = j
        · rw [if_pos c, if_pos hil] at ht
          exact absurd (congrArg Prod.fst (Option.some.inj ht)) (show (0 : Nat) ≠ 1 by omega)
        · rw [if_neg c] at ht
          exact ⟨t, ht⟩))
      obtain ⟨g1, g2⟩ := ar_chn (t := t0) (n := n) hk hp hn hL9 (show i < 85 by omega) b2 b4 h2 h5 h6 i6 i7
      refine ⟨_, sc i :: vc, sr i :: vr, ars_2 h3 h4 i1, by rw [List.length_cons, i2, List.length_cons], by rw [List.length_cons, i3, List.length_cons], fun j t hj => ?_, fun j t hj => ?_, g1, g2⟩
      · cases j with
        | zero => exact absurd (congrArg Prod.fst (Option.some.inj hj)) (show (2 : Nat) ≠ 1 by omega)
        | succ j => rw [gI_cs, gI_cs]; exact i4 j t hj
      · cases j with
        | zero => exact ⟨rfl, rfl⟩
        | succ j => rw [gI_cs, gI_cs]; exact i5 j t hj
/-- PARAMS of a DEF as the class has them -/
def PMr (k f : Nat) (L : lT) (ps : Gm) : Prop := ps.length ≤ 4 ∧ gI (L (k + 43)) f = nI ps.length ∧ (∀ (j : Nat) (q : Nat × Nat), ps[j]? = some q → (q.1 = 1 ∧ gI (L (k + 45)) (f * 4 + j) = -1) ∨ (q.1 = 2 ∧ gI (L (k + 45)) (f * 4 + j) ≠ -1)) ∧ ∀ j, ps.length ≤ j → j < 4 → gI (L (k + 45)) (f * 4 + j) = -1
theorem cp_ok {I : iT} (hK : RK I k L) {f : Nat} (hf : f < 12) {ps : Gm} (hP : PMr k f L ps) : mX0_channelParams k I (nI f) = some (nI (cch ps)) := by
  obtain ⟨h1, h2, h3, h4⟩ := hP
  have go : ∀ (c j cnt m : Nat), j + c = 4 → mX0_channelParams_4 k (m + c + 1) I (nI f) (nI cnt) (nI j) = some (nI (cnt + cch (ps.drop j))) := by
    intro c
    induction c with
    | zero =>
      intro j cnt m hj
      have : ps.drop j = [] := List.drop_eq_nil_of_le (by omega)
      rw [mX0_channelParams_4, if_pos (show (4 : Int32) ≤ nI j from nI_le (a := 4) (by omega) (by omega)), this]
      rfl
    | succ c ih =>
      intro j cnt m hj
      show mX0_channelParams_4 k (m + c + 1 + 1) I (nI f) (nI cnt) (nI j) = _
      rw [mX0_channelParams_4, if_neg (show ¬ (4 : Int32) ≤ nI j from nI_ge (b := 4) (by omega) (by omega)), pt_ok hK hf (by omega), sb]
      unfold mX0_channelParams_22
      by_cases q : j < ps.length
      · have e0 : ps[j]? = some ps[j] := List.getElem?_eq_getElem q
        have e1 : ps.drop j = ps[j] :: ps.drop (j + 1) := List.drop_eq_getElem_cons q
        obtain ⟨s, t⟩ : ∃ s t, ps[j] = (s, t) := ⟨_, _, rfl⟩
        obtain ⟨t, ht⟩ := t
        rw [ht] at e0 e1
        rcases h3 j _ e0 with ⟨y1, y2⟩ | ⟨y1, y2⟩
        · have y1' : s = 1 := y1
          subst y1'
          rw [if_pos y2, nI_1, ih (j + 1) cnt m (by omega), e1]
          rfl
        · have y1' : s = 2 := y1
          subst y1'
          rw [if_neg y2, nI_1, nI_1, ih (j + 1) (cnt + 1) m (by omega), e1]
          show some (nI (cnt + 1 + cch (ps.drop (j + 1)))) = some (nI (cnt + (cch (ps.drop (j + 1)) + 1)))
          congr 2
          omega
      · have e1 : ps.drop j = [] := List.drop_eq_nil_of_le (by omega)
        have e2 : ps.drop (j + 1) = [] := List.drop_eq_nil_of_le (by omega)
        rw [if_pos (h4 j (by omega) (by omega)), nI_1, ih (j + 1) cnt m (by omega), e1, e2]
  have := go 4 0 0 (LF - 5) (by omega)
  rw [List.drop_zero, Nat.zero_add] at this
  exact this
/-- the reference puts ARGS to their places -/
theorem t105 {p2 n2 : Nat} (hp2 : p2 < 80) (hn2 : n2 ≤ 4) (x1 x3 x4 x6 : Int32) : ∀ (c j m : Nat) (B : iT), j + c = n2 → ∃ B', mX12_tells_105 (m + c + 1) B x1 (nI p2) x3 x4 (nI n2) x6 (nI j) = some (x6, B') ∧ (∀ i, j ≤ i → i < n2 → B' 218 (128 * p2 + i) = B 230 i) ∧ B' 218 (128 * p2 + n2) = B 214 p2 ∧ (∀ i, i < j → B' 218 (128 * p2 + i) = B 218 (128 * p2 + i)) ∧ (∀ q i, ¬ (q = 218 ∧ 128 * p2 ≤ i ∧ i ≤ 128 * p2 + n2) → B' q i = B q i) := by
  intro c
  induction c with
  | zero =>
    intro j m B hj
    have e : j = n2 := by omega
    subst e
    refine ⟨a_u2 B 218 (128 * p2 + j) (B 214 p2), ?_, fun i h1 h2 => by omega, a_u2_s _ _ _ _, fun i hi => a_u2_n _ _ (by omega), fun q i h => a_u2_n _ _ (by omega)⟩
    rw [mX12_tells_105, if_pos (nI_le (Nat.le_refl _) (by omega)), if_pos (in80 hp2), i128, if_pos (show inb (nI (128 * p2 + j)) 10240 from vp_in_nI (by omega) (by omega)), nI_clamp (by omega), cl80 hp2]
  | succ c ih =>
    intro j m B hj
    obtain ⟨B', g1, g2, g3, g4, g5⟩ := ih (j + 1) m (a_u2 B 218 (128 * p2 + j) (B 230 j)) (by omega)
    refine ⟨B', ?_, fun i h1 h2 => ?_, by rw [g3, a_u2_n _ _ (by omega)], fun i hi => by rw [g4 i (by omega), a_u2_n _ _ (by omega)], fun q i h => by rw [g5 q i h, a_u2_n _ _ (by omega)]⟩
    · show mX12_tells_105 (m + c + 1 + 1) B x1 (nI p2) x3 x4 (nI n2) x6 (nI j) = _
      rw [mX12_tells_105, if_neg (nI_ge (by omega) (by omega)), if_pos (in4 (by omega)), i128, if_pos (show inb (nI (128 * p2 + j)) 10240 from vp_in_nI (by omega) (by omega)), nI_clamp (by omega), cl4 (by omega), nI_1]
      exact g1
    · by_cases e : i = j
      · subst e
        rw [g4 i (by omega), a_u2_s]
      · rw [g2 i (by omega) h2, a_u2_n _ _ (by omega)]
theorem ts_ok {ps : Gm} {vr : List Int32} {x : Int32} {B : iT} {p2 : Nat} (hp2 : p2 < 80) (hr : GAr p n B0 sr x ps vr) (hB : ∀ q, 188 ≤ q → q ≤ 205 → B q = B0 q) (hs : ∀ i, i < 85 → B 218 (128 * p + sg n i) = sr i) (h76 : B 186 76 = nI 0) (h4 : ps.length ≤ 4) (x4 : Int32) : ∃ B', mX12_tells B (nI p) (nI p2) x x4 = some (nI (cch ps), B') ∧ (∀ i, i < ps.length → B' 218 (128 * p2 + i) = gI vr i) ∧ B' 218 (128 * p2 + ps.length) = B 214 p2 ∧ B' 186 76 = nI 0 ∧ (∀ q i, ¬ (q = 186 ∧ i = 76) → q ≠ 229 → q ≠ 230 → ¬ (q = 218 ∧ 128 * p2 ≤ i ∧ i ≤ 128 * p2 + ps.length) → B' q i = B q i) := by
  obtain ⟨B1, a1, a2, a3, a4, a5⟩ := hr 0 0 B hB hs h76 (by omega) (LF - ps.length - 1) (nI p2) x x4
  obtain ⟨B', b1, b2, b3, b4, b5⟩ := t105 (n2 := ps.length) hp2 h4 (nI p) x x4 (nI (cch ps)) ps.length 0 (LF - ps.length - 1) B1 (by omega)
  have e1 : LF - ps.length - 1 + ps.length + 1 = LF := by unfold LF; omega
  rw [e1] at a1 b1
  rw [Nat.zero_add, Nat.zero_add] at a1
  refine ⟨B', ?_, fun i hi => ?_, ?_, by rw [b5 _ _ (by omega)]; exact a4, fun q i w1 w2 w3 w4 => by rw [b5 q i w4, a5 q i w1 w2 w3]⟩
  · unfold mX12_tells
    show mX12_tells_9 LF B (nI p) (nI p2) x x4 (nI 0) (nI 0) x = _
    rw [a1]
    exact b1
  · rw [b2 i (by omega) hi, ← a2 i hi, Nat.zero_add]
  · rw [b3, a5 _ _ (by omega) (by omega) (by omega)]
/-- the class enters a DEF -/
theorem gn_ok {I : iT} {R : lT} {F : fT} (hF : F 148 12 = k) (hK : RK I k L) (hN : RN I R) (hp : p < 80) {f κ : Nat} (hf : f < 12) (h37 : gI (L (k + 37)) f = nI κ) {ps : Gm} (hP : PMr k f L ps) {vc : List Int32} (h178 : R 178 = vc) (hv : vc.length ≤ 4) (hlp : p * 85 + 85 ≤ (R 176).length) : ∃ I' R', mX6_goOn I F (nI p) (nI f) = some I' ∧ RK I' k L ∧ RN I' R' ∧ R' 164 = (R 164).set p (nI f) ∧ R' 166 = (R 166).set p (nI κ) ∧ R' 172 = (R 172).set p (nI (cch ps)) ∧ (R' 176).length = (R 176).length ∧ (∀ j, j < vc.length → gI (R' 176) (p * 85 + (1 + j)) = gI vc j) ∧ (∀ i, (∀ j, j < vc.length → i ≠ p * 85 + (1 + j)) → gI (R' 176) i = gI (R 176) i) ∧ (∀ a, a ≠ 164 → a ≠ 166 → a ≠ 172 → a ≠ 176 → R' a = R a) ∧ (∀ q, ¬ (164 ≤ q ∧ q ≤ 177) → I' q = I q) := by
  have hk := hK.1
  have go : ∀ (c j m : Nat) (I : iT) (R : lT) (x2 : Int32), RN I R → R 178 = vc → j + c = vc.length → p * 85 + 85 ≤ (R 176).length → ∃ I' R', mX6_goOn_46 (m + c + 1) I F (nI p) x2 (nI j) = some I' ∧ RN I' R' ∧ (R' 176).length = (R 176).length ∧ (∀ i, j ≤ i → i < vc.length → gI (R' 176) (p * 85 + (1 + i)) = gI vc i) ∧ (∀ i, (∀ j', j ≤ j' → j' < vc.length → i ≠ p * 85 + (1 + j')) → gI (R' 176) i = gI (R 176) i) ∧ (∀ a, a ≠ 176 → R' a = R a) ∧ (∀ q, ¬ (176 ≤ q ∧ q ≤ 177) → I' q = I q) := by
    intro c
    induction c with
    | zero =>
      intro j m I R x2 hN hR hj hl
      refine ⟨I, R, ?_, hN, rfl, fun i h1 h2 => by omega, fun _ _ => rfl, fun _ _ => rfl, fun _ _ => rfl⟩
      rw [mX6_goOn_46, rn_size hN (by unfold rnA; omega), sb, hR, if_pos (nI_le (by omega) (by omega))]
    | succ c ih =>
      intro j m I R x2 hN hR hj hl
      obtain ⟨I1, a1, a2, a3⟩ := sts_ok hN hp (i := 1 + j) (by omega) (gI vc j)
      obtain ⟨I', R', b1, b2, b3, b4, b5, b6, b7⟩ := ih (j + 1) m I1 _ x2 a2 (by rw [upL_n _ _ (by omega)]; exact hR) (by omega) (by rw [upL_s, List.length_set]; exact hl)
      refine ⟨I', R', ?_, b2, by rw [b3, upL_s, List.length_set], fun i h1 h2 => ?_, fun i hi => ?_, fun a ha => by rw [b6 a ha, upL_n _ _ ha], fun q hq => by rw [b7 q hq, a3 q (by omega) (by omega)]⟩
      · show mX6_goOn_46 (m + c + 1 + 1) I F (nI p) x2 (nI j) = _
        rw [mX6_goOn_46, rn_size hN (by unfold rnA; omega), sb, hR, if_neg (nI_ge (by omega) (by omega)), rn_g hN (by unfold rnA; omega) (by omega), sb, hR]
        have e1 : (1 : Int32) + nI j = nI (1 + j) := nI_add 1 j
        rw [e1, a1, sb, nI_1]
        exact b1
      · by_cases e : i = j
        · subst e
          rw [b5 _ (fun j' h1 _ => by omega), upL_s, gI_se (by omega)]
        · exact b4 i (by omega) h2
      · rw [b5 i (fun j' h1 h2 => hi j' (by omega) h2), upL_s, gI_sn (hi j (Nat.le_refl _) (by omega))]
  obtain ⟨I1, a1, a2, a3⟩ := rn_put hN (a := 164) (by unfold rnA; omega) (j := p) (by omega) (nI f)
  have hK1 := rk_keep hK (I' := I1) (fun a w1 w2 => a3 a (by omega) (by omega))
  obtain ⟨I2, b1, b2, b3⟩ := rn_put a2 (a := 166) (by unfold rnA; omega) (j := p) (by omega) (nI κ)
  have hK2 := rk_keep hK1 (I' := I2) (fun a w1 w2 => b3 a (by omega) (by omega))
  obtain ⟨I3, c1, c2, c3⟩ := rn_put b2 (a := 172) (by unfold rnA; omega) (j := p) (by omega) (nI (cch ps))
  have hK3 := rk_keep hK2 (I' := I3) (fun a w1 w2 => c3 a (by omega) (by omega))
  obtain ⟨I', R', d1, d2, d3, d4, d5, d6, d7⟩ := go vc.length 0 (LF - vc.length - 1) I3 _ (nI f) c2 (by rw [upL_n _ _ (by omega), upL_n _ _ (by omega), upL_n _ _ (by omega)]; exact h178) (by omega) (by rw [upL_n _ _ (by omega), upL_n _ _ (by omega), upL_n _ _ (by omega)]; exact hlp)
  have e1 : LF - vc.length - 1 + vc.length + 1 = LF := by unfold LF; omega
  rw [e1] at d1
  refine ⟨I', R', ?_, rk_keep hK3 (fun a w1 w2 => d7 a (by omega)), d2, ?_, ?_, ?_, ?_, fun j hj => d4 j (by omega) hj, fun i hi => ?_, fun a w1 w2 w3 w4 => ?_, fun q hq => by rw [d7 q (by omega), c3 q (by omega) (by omega), b3 q (by omega) (by omega), a3 q (by omega) (by omega)]⟩
  · unfold mX6_goOn
    rw [a1, sb, hF, rk_g hK1 (by unfold rkA; omega) (by omega), sb, h37, b1, sb, cp_ok hK2 hf hP, sb, c1, sb]
    exact d1
  · rw [d6 164 (by omega), upL_n _ _ (by omega), upL_n _ _ (by omega), upL_s]
  · rw [d6 166 (by omega), upL_n _ _ (by omega), upL_s, upL_n _ _ (by omega)]
  · rw [d6 172 (by omega), upL_s, upL_n _ _ (by omega), upL_n _ _ (by omega)]
  · rw [d3, upL_n _ _ (by omega), upL_n _ _ (by omega), upL_n _ _ (by omega)]
  · rw [d5 i (fun j' _ h => hi j' h), upL_n _ _ (by omega), upL_n _ _ (by omega), upL_n _ _ (by omega)]
  · rw [d6 a w4, upL_n _ _ w3, upL_n _ _ w2, upL_n _ _ w1]
end
