/-! WHAT ENDS A P: outcome; close (pure) -/
def cW (k : Nat) (I I' : iT) : Prop := (∀ b, b ≠ 6 → ¬ (134 ≤ b ∧ b ≤ 141) → ¬ (k + 19 ≤ b ∧ b ≤ k + 60) → I' b = I b) ∧ ∀ i, i ≠ 5 → I' 134 i = I 134 i
theorem cW.trans {k : Nat} {I I1 I2 : iT} (a : cW k I I1) (b : cW k I1 I2) : cW k I I2 := ⟨fun x p q r => (b.1 x p q r).trans (a.1 x p q r), fun i hi => (b.2 i hi).trans (a.2 i hi)⟩
theorem cQ_cW {k : Nat} (hk : k = 12 ∨ k = 73) {I I1 : iT} (a : cQ k I I1) : cW k I I1 := ⟨fun x p q r => a x p (by omega) r, fun i _ => congrFun (a 134 (by omega) (by omega) (by omega)) i⟩
theorem cW_FQ {k : Nat} {I I1 : iT} (a : cW k I I1) : FQ k I I1 := fun x p q r => a.1 x p (by omega) (by omega)
/-- what a whole P leaves -/
def WG (k h M n : Nat) (D : List Df) (F : fT) (I B : iT) (J : jT) (L : lT) (bs : List Nat) (P md nest : Nat) (Γ : Gm) (a6 a8 a0 : List Int32) (wd b : Nat) (I' B' : iT) (J' : jT) (l : Nat) : Prop :=
  ∃ u L' t' r' md' a6' a8' a0' wd' m, CR I' B' J' bs t' r' ∧ PE k h M n D F I' B' J' L' t'.2.2 md' nest a6' a8' a0' wd' b ∧ B' 186 49 = nI u ∧ PR k n D L' B' J' (fun v => 1400 * h + md ≤ v ∧ v < 1400 * h + md') (fun κ => (L (k + 47)).length ≤ κ ∧ κ < (L' (k + 47)).length) (fun c => (L (k + 55)).length ≤ c ∧ c < (L' (k + 55)).length) m u (L (k + 47)).length l Γ ∧ (m + (L (k + 47)).length ≤ (L' (k + 47)).length ∧ l ≤ m) ∧ wd + l ≤ wd' ∧ PGr k L L' P t'.2.2 md md' ∧ cW k I I' ∧ rP h md nest B J B' J' ∧ LK nest a6 a8 a0 a6' a8' a0'
def EO (k h M n : Nat) (D : List Df) (F : fT) (I B : iT) (J : jT) (L : lT) (bs : List Nat) (P md nest : Nat) (S : List Sl) (a6 a8 a0 : List Int32) (wd b : Nat) (oc : Option iT) (or : Option (Int32 × iT × jT)) : Prop :=
  ∃ I' v B' J', oc = some I' ∧ or = some (v, B', J') ∧ ((v = 0 ∧ PL k h (b + 1) I B J I' B' J') ∨ (v = 1 ∧ ∀ w0, w0 + 1 = wd → WG k h M n D F I B J L bs P md nest (gm S) a6 a8 a0 w0 b I' B' J' 1))
section
variable {k h M n : Nat} {D : List Df} {F : fT} {I B I' B' : iT} {J J' : jT} {L L' : lT} {bs : List Nat} {t' : Tok} {r' : List Tok} {P md md' nest wd b z : Nat} {S S' : List Sl} {a6' a8' a0' : List Int32} {op c o e : Int32}
theorem wg_of (hN : nodL k L) (N : NG k L L' op c o e) (hC : CR I' B' J' bs t' r') (H : PS k h M n D F I' B' J' L' t'.2.2 md' nest S' a6' a8' a0' wd b z) (h4 : 4 * (L (k + 47)).length ≤ P) (hP : P + 4 ≤ t'.2.2) (b19 : (L' (k + 19)).length + P ≤ (L (k + 19)).length + t'.2.2) (bmd : md' + P ≤ md + t'.2.2) (hmd : md ≤ md') (b59 : 2 * (L' (k + 59)).length + P ≤ 2 * (L (k + 59)).length + t'.2.2) {u : Nat} (e49 : B' 186 49 = nI u) (hPH : ∀ Q Rn Rc X, Q = (fun v => 1400 * h + md ≤ v ∧ v < 1400 * h + md') → Rn = (fun κ => (L (k + 47)).length ≤ κ ∧ κ < (L' (k + 47)).length) → PH k n D L' B' J' Q Rn Rc X u (L (k + 47)).length 1 (gm S)) (hq : cQ k I I') (hr : rP h md nest B J B' J') {a6 a8 a0 : List Int32} (hl : LK nest a6 a8 a0 a6' a8' a0') (he : EB e := by exact Or.inl rfl) : ∀ w0, w0 + 1 = wd → WG k h M n D F I B J L bs P md nest (gm S) a6 a8 a0 w0 b I' B' J' 1 := by
  intro w0 hw0
  have hg := ng_g hN N
  exact ⟨u, L', t', r', md', a6', a8', a0', wd, 1, hC, ps_pe (ps_z H (by omega)), e49, hPH _ _ _ _ rfl rfl, ⟨by omega, Nat.le_refl _⟩, by omega, ng_gr hN N hP b19 bmd hmd b59 he, cQ_cW H.1.1.1 hq, hr, hl⟩
theorem hasC_G (S : List Sl) : hasG (gm S) ↔ hasC S := by
  constructor
  · intro ⟨i, t, h1, h2⟩
    unfold gm at h2
    rw [List.getElem?_map] at h2
    cases hs : S[i]? with
    | none => rw [hs] at h2; cases h2
    | some s =>
      rw [hs] at h2
      have := Option.some.inj h2
      exact ⟨i, s, h1, hs, congrArg Prod.fst this⟩
  · intro ⟨i, s, h1, h2, h3⟩
    exact ⟨i, s.2.2.2.1, h1, by rw [gm_get h2, h3]⟩
end
section
variable {k h M n : Nat} {D : List Df} {F : fT} {I B : iT} {J : jT} {L : lT} {bs : List Nat} {t : Tok} {r : List Tok} {P md nest wd b z : Nat} {S : List Sl} {a6 a8 a0 : List Int32}
theorem st_close (R : sc_12actT) (hC : CR I B J bs t r) (H : PS k h M n D F I B J L t.2.2 md nest S a6 a8 a0 wd b 0) (q : t.1 = 315) (hno : ¬ hasC S) : EO k h M n D F I B J L bs t.2.2 md nest S a6 a8 a0 wd b (mX3_readClose I F) (bX12_act R B J 115) := by
  have hk0 := H.1.1.1
  have hF := H.2.1.1
  have hnod := H.2.2.1
  have bb := H.1.2.2.2.2.2.2.2
  have bn := H.2.2.2.2.2.1
  have hbb := H.2.2.2.2.2.2.2.2
  have htl : tl 315 = 5 := by decide
  have hh := H.1.2.2.2.2.1.1
  have hlen : (L (k + 47)).length < 2 ^ 31 := by
    have := cr_end hC
    omega
  obtain ⟨I1, I2, B2, J2, e1, e2, e3, HO⟩ := th_ok hC H (w := 315) (gc := 1) (hc := -1) (gk := 302) (hk := 259) (Or.inl ⟨rfl, rfl, rfl, rfl, rfl⟩) q
  have eR : bX12_act R B J 115 = ((mX12_aChannel B2 J2 1 (-1)).bind fun q1 => if q1.1 = 0 ∨ q1.1 = 1 then some (q1.1, q1.2.1, q1.2.2) else none).bind fun q36 => if q36.1 = 0 then some (0, q36.2.1, q36.2.2) else (mX12_node q36.2.1 q36.2.2 40 (q36.2.1 186 48) (-1) 0).bind fun q37 => some (1, a_u2 q37.2.1 186 49 q37.1, q37.2.2) := by
    unfold bX12_act
    rw [if_neg (by decide), if_neg (by decide), e3, sb]
    rfl
  have eC : mX3_readClose I F = (mX3_readChannel I2 F 315).bind fun q3 => (mX4_put (k + 49) q3.2 (nI (L (k + 47)).length) q3.1).bind fun q4 => some q4 := by
    unfold mX3_readClose
    rw [hF]
    show ((mX0_addNode k I (nI 315)).bind _) = _
    rw [e1, sb, e2, sb]
  rw [eR, eC]
  rcases HO with ⟨x, I3, B3, J3, c1, c2, c3⟩ | ⟨i, s, kd, wc, I3, B3, J3, t3, r3, d1, d2, d3, d4, d5, d6, d7, d8, d9, d10, d11, d12, d13, d14, d15, d16⟩
  · obtain ⟨I', a1, a2⟩ := pfu_PL c3 (c' := b + 1) (o := (mX4_put (k + 49) I3 (nI (L (k + 47)).length) x).bind fun q4 => some q4) (fun f p hf => pfu_mono (pfu_u (pf_putB hf (by unfold rowB; omega) _ _) (fun I2 h2 => pfu_ret h2)) (Nat.le_succ b) (by omega))
    refine ⟨I', 0, B3, J3, ?_, by rw [c2, sb, if_pos (Or.inl rfl), sb, if_pos rfl], Or.inl ⟨rfl, a2⟩⟩
    show ((mX3_readChannel I2 F (nI 315)).bind _) = _
    rw [c1, sb]
    exact a1
  · have hi : i = 0 := by
      rcases Nat.eq_zero_or_pos i with z | z
      · exact z
      · rw [if_neg (by omega)] at d6
        exfalso
        unfold KW kw6 at d3
        have := (nI_eq (a := kd) (b := 259) (by omega) (by omega)).mp d6
        omega
    subst hi
    rw [if_pos rfl] at d6
    have hkd : gI (L (k + 2)) s.2.2.2.1 = 302 := by rw [d4]; exact d6
    have hsg : sg n 0 = n := by unfold sg; rw [if_pos rfl]
    rw [hsg] at d11
    have hP3 := cr_end d9
    obtain ⟨I7, p1, p2, p3⟩ := ps_put d10 (a := k + 49) (by omega) (j := (L (k + 47)).length) hlen (nI 0)
    obtain ⟨B5, J5, m1, m2, m3, m4, m5, m6, m7, m8, m9, m10⟩ := ps_rnode p2 (by omega) (by omega) 40 (nI n) (-1) 0
    have H6 := ps_49 m2 49 (by omega) (nI (1400 * h + md))
    have hC9 : CR I7 (a_u2 B5 186 49 (nI (1400 * h + md))) J5 bs t3 r3 := CR_B (CR_I d9 (p3 6 (by omega)) (p3 9 (by omega)) (p3 10 (by omega)) (p3 11 (by omega))) (fun j _ _ => by rw [a_u2_n _ _ (by omega), m9 _ _ (by omega) (by omega)]) (funext fun j => by rw [a_u2_n _ _ (by omega), m9 _ _ (by omega) (by omega)]) (m10 _ _ (by omega))
    have hng := ng_49 hnod (ng_ad4 (k := k) (L := L) (nI 315)) (nI 0)
    have hg := ng_g hnod hng
    have hLs : ∀ a, ¬ (k + 47 ≤ a ∧ a ≤ k + 53) → (upL (ad4 k L (nI 315)) (k + 49) ((ad4 k L (nI 315) (k + 49)).set (L (k + 47)).length (nI 0))) a = L a := fun a w1 => by rw [upL_n _ _ (by omega), ad4_n _ (by omega)]
    refine ⟨I7, 1, a_u2 B5 186 49 (nI (1400 * h + md)), J5, ?_, ?_, Or.inr ⟨rfl, wg_of hnod hng hC9 H6 (by omega) (by omega) (by rw [hLs _ (by omega)]; omega) (by omega) (by omega) (by rw [hLs _ (by omega)]; omega) (u := 1400 * h + md) (a_u2_s _ _ _ _) (fun Q Rn Rc X hQ hRn => ⟨by omega, by rw [hQ]; exact ⟨Nat.le_refl _, by omega⟩, by omega, by rw [hRn]; exact ⟨Nat.le_refl _, by omega⟩, Or.inl ⟨s.2.2.2.1, by rw [a_u2_n _ _ (by omega)]; exact m3, hg.1, by rw [a_u2_n _ _ (by omega)]; exact m4, hg.2.1, by rw [gm_get d1, d2], by rw [hLs _ (by omega)]; exact hkd, fun z => hno ((hasC_G S).mp z), rfl⟩⟩) (d13.trans (fun c w1 w2 w3 => p3 c (by omega))) ((d14.trans (rS_rP m8) (Nat.le_refl _) (Nat.le_refl nest)).trans (rP_sc (by omega) _) (Nat.le_refl md) (Nat.le_refl nest)) lk_rfl⟩⟩
    · show ((mX3_readChannel I2 F (nI 315)).bind _) = _
      rw [d7, sb]
      show ((mX4_put (k + 49) I3 (nI (L (k + 47)).length) (nI 0)).bind _) = _
      rw [p1, sb]
    · rw [d8, sb, if_pos (Or.inr rfl), sb, if_neg i10]
      show ((mX12_node B3 J3 40 (B3 186 48) (-1) 0).bind _) = _
      rw [d11, m1, sb]
end
