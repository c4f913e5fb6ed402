/-! A P INSIDE OF AN if OR A case (pure) -/
def WO (k h M n : Nat) (D : List Df) (F : fT) (I B : iT) (J : jT) (L : lT) (bs : List Nat) (P md nest : Nat) (S : List Sl) (a6 a8 a0 : List Int32) (wd b : Nat) (oc : Option (Int32 × iT)) (or : Option (Int32 × iT × jT)) : Prop :=
  ∃ x I' v B' J', oc = some (x, I') ∧ or = some (v, B', J') ∧ ((v = 0 ∧ PL k h (b + 1) I B J I' B' J') ∨ (v = 1 ∧ ∃ l, x = nI l ∧ WG k h M n D F I B J L bs P md nest (gm S) a6 a8 a0 wd b I' B' J' l))
/-- both read every P at this depth alike -/
def HP (k h M n : Nat) (D : List Df) (F : fT) (bs : List Nat) (b nest : Nat) (c : iT → fT → Int32 → Option (Int32 × iT)) (r : iT → jT → Option (Int32 × iT × jT)) : Prop :=
  ∀ (I B : iT) (J : jT) (L : lT) (t : Tok) (rt : List Tok) (md : Nat) (S : List Sl) (a6 a8 a0 : List Int32) (wd : Nat), CR I B J bs t rt → PS k h M n D F I B J L t.2.2 md nest S a6 a8 a0 wd b 0 → WO k h M n D F I B J L bs t.2.2 md nest S a6 a8 a0 wd b (c I F (nI nest)) (r B J)
section
variable {k h M n : Nat} {D : List Df} {F : fT} {I B : iT} {J : jT} {L : lT} {bs : List Nat} {t : Tok} {r : List Tok} {P md nest wd b z : Nat} {S : List Sl} {a6 a8 a0 c6 c8 c0 : List Int32}
theorem pk_of {L' : lT} {B' : iT} {J' : jT} {P' md' : Nat} {Q Rn Rc : Nat → Prop} (H : PGr k L L' P P' md md') (hT : tabL k L) (hS : sumL k L) (hA : ∀ v, Q v → (B' 188 v = B 188 v ∧ B' 189 v = B 189 v ∧ B' 190 v = B 190 v ∧ B' 191 v = B 191 v ∧ J' 192 v = J 192 v)) (hRn : ∀ v, Rn v → v < (L (k + 47)).length) (hRc : ∀ v, Rc v → v < (L (k + 55)).length) : PK k L L' B B' J J' Q Rn Rc := by
  obtain ⟨a1, a2, a3, a4, a5, a6, a7, a8, a9⟩ := H
  exact ⟨hT, TE_eq (fun a q1 q2 => a2 a (by omega)), hS, a1, a6, a7, a8, hA, fun v hv => a4 v (hRn v hv), fun v hv => a5 v (hRc v hv)⟩
theorem lk_le {nest' : Nat} (H : LK nest' a6 a8 a0 c6 c8 c0) (h : nest ≤ nest') : LK nest a6 a8 a0 c6 c8 c0 := by
  have : nest * 85 ≤ nest' * 85 := Nat.mul_le_mul_right 85 h
  exact ⟨fun j hj => H.1 j (by omega), fun j hj => H.2 j (by omega)⟩
theorem cW_rfl : cW k I I := ⟨fun _ _ _ _ => rfl, fun _ _ => rfl⟩
/-- a P one level deeper; then the class leaves -/
theorem inP {cc : iT → fT → Int32 → Option (Int32 × iT)} {rr : iT → jT → Option (Int32 × iT × jT)} (hP : HP k h M n D F bs b (nest + 1) cc rr) {S1 : List Sl} (hS1 : S.length = S1.length) (hC : CR I B J bs t r) (H : PS k h M n D F I B J L t.2.2 md (nest + 1) S1 c6 c8 c0 wd b 0) {I0 : iT} (hcp : CP I0 nest S a6 a8 a0) (hlk : LK (nest + 1) a6 a8 a0 c6 c8 c0) :
    (∃ x I1 I' B' J', cc I F (nI (nest + 1)) = some (x, I1) ∧ mX5_leave I1 = some I' ∧ rr B J = some (0, B', J') ∧ PL k h (b + 1) I B J I' B' J') ∨
    (∃ l I1 I' B' J' t' r' L' md' d6 d8 d0 wd' u m, cc I F (nI (nest + 1)) = some (nI l, I1) ∧ mX5_leave I1 = some I' ∧ rr B J = some (1, B', J') ∧ CR I' B' J' bs t' r' ∧ PU k h M n D F I' B' J' L' t'.2.2 md' (nest + 1) nest S d6 d8 d0 wd' b ∧ B' 186 49 = nI u ∧ PR k n D L' B' J' (fun v => 1400 * h + md ≤ v ∧ v < 1400 * h + md') (fun κ => (L (k + 47)).length ≤ κ ∧ κ < (L' (k + 47)).length) (fun c => (L (k + 55)).length ≤ c ∧ c < (L' (k + 55)).length) m u (L (k + 47)).length l (gm S1) ∧ (m + (L (k + 47)).length ≤ (L' (k + 47)).length ∧ l ≤ m) ∧ wd + l ≤ wd' ∧ PGr k L L' t.2.2 t'.2.2 md md' ∧ cW k I I' ∧ rP h md (nest + 1) B J B' J' ∧ LK (nest + 1) a6 a8 a0 d6 d8 d0) := by
  have hk0 := H.1.1.1
  have hbb := H.2.2.2.2.2.2.2.2
  have hsr := H.1.2.2.2.2.2.1
  obtain ⟨x, I1, v, B', J', e1, e2, ho⟩ := hP I B J L t r md S1 c6 c8 c0 wd hC H
  rcases ho with ⟨rfl, hpl⟩ | ⟨rfl, l, rfl, u, L', t', r', md', d6, d8, d0, wd', m, g1, g2, g3, g4, g5, g6, g7, g8, g9, g10⟩
  · left
    obtain ⟨I', a1, a2⟩ := pfu_PL hpl (c' := b + 1) (fun f p hf => pf_leave hf)
    exact ⟨x, I1, I', B', J', e1, a1, e2, a2⟩
  · right
    obtain ⟨I', a1, a2, a3⟩ := pe_leave g2 hcp ⟨by rw [hS1]; exact hsr.2.1.2.2.2.2.2.1, by have := H.2.2.2.2.1.2.2.2; omega⟩ (hlk.trans g10)
    exact ⟨l, I1, I', B', J', t', r', L', md', d6, d8, d0, wd', u, m, e1, a1, e2, CR_I g1 (a3 6 (by omega)) (a3 9 (by omega)) (a3 10 (by omega)) (a3 11 (by omega)), a2, g3, g4, g5, g6, g7, g8.trans ⟨fun q w1 w2 w3 => a3 q (by omega), fun i _ => by rw [a3 134 (by omega)]⟩, g9, hlk.trans g10⟩
/-- both want else -/
theorem jelse (hC : CR I B J bs t r) (hr : RS I k L) (hf : Nat) :
    (t.1 = 313 ∧ ∃ u r' I' B' J', r = u :: r' ∧ mX2_want I 313 = some I' ∧ mX12_needWord B J 113 = some (1, B', J') ∧ CR I' B' J' bs u r' ∧ t.2.2 + 4 ≤ u.2.2 ∧ cf I I' ∧ rf B J B' J') ∨
    (t.1 ≠ 313 ∧ ∃ I' B', mX2_want I 313 = some I' ∧ mX12_needWord B J 113 = some (0, B', J) ∧ FAIL k hf I B J I' B' J) := by
  have e1 : I 6 6 = 313 ↔ t.1 = 313 := cr_c hC 313 (by omega)
  have e2 : B 186 3 = 113 ↔ t.1 = 313 := cr_r hC 313 (by decide)
  have htl : tl 313 = 4 := by decide
  by_cases q : t.1 = 313
  · left
    refine ⟨q, ?_⟩
    obtain ⟨u, r', I', B', J', k1, k2, k3, k4, k5, k6, k7⟩ := jadv hC (by omega)
    rw [q, htl] at k5
    refine ⟨u, r', I', B', J', k1, ?_, ?_, k4, k5, k6, k7⟩
    · unfold mX2_want; rw [if_pos (e1.mpr q), k2, sb]
    · unfold mX12_needWord; rw [if_pos (e2.mpr q), k3, sb]
  · right
    refine ⟨q, ?_⟩
    obtain ⟨I', B', a1, a2, a3, _⟩ := jbad hC hr hf (f := 1) (by decide) (nI t.2.2)
    refine ⟨I', B', ?_, ?_, a3⟩
    · unfold mX2_want; rw [if_neg (fun x => q (e1.mp x)), cr_8 hC, a1, sb]
    · unfold mX12_needWord; rw [if_neg (fun x => q (e2.mp x)), cr_4 hC, a2, sb, if_pos (Or.inl rfl)]
end
theorem u64b : ∀ a, a < 53 → ∀ c, c < 53 → (nI (53 * a + c)).toInt64 = lN (53 * a + c) := by decide +kernel
theorem u64 (f : Nat) (h : f < 2800) : (nI f).toInt64 = lN f := by
  have := u64b (f / 53) (by omega) (f % 53) (by omega)
  rw [Nat.div_add_mod] at this
  exact this
section
variable {k : Nat} {f p : Int32} {b : Nat} {I : iT} {F : fT} {cc : iT → fT → Int32 → Option (Int32 × iT)}
/-- the class behind a fault reads braces -/
def brC (cc : iT → fT → Int32 → Option (Int32 × iT)) (I : iT) (F : fT) (x : Int32) : Option (Int32 × iT) := (mX2_want I 123).bind fun q1 => (mX5_enter q1).bind fun q2 => (cc q2 F x).bind fun q3 => (mX5_leave q3.2).bind fun q4 => (mX2_want q4 125).bind fun q5 => some (q3.1, q5)
theorem pf_brE (hcc : ∀ f p b I x, PF k f p b I → cc I F x = some (-1, I)) (hp : PF k f p b I) (x : Int32) : PFo k f p b I ((mX5_enter I).bind fun q2 => (cc q2 F x).bind fun q3 => (mX5_leave q3.2).bind fun q4 => (mX2_want q4 125).bind fun q5 => some (q3.1, q5)) := by
  refine pfo_u (pf_enter hp) (fun I1 h1 => ?_)
  rw [hcc f p b I1 x h1, sb]
  refine pfo_u (pf_leave h1) (fun I2 h2 => ?_)
  rw [fm_want h2.1 (by decide), sb]
  exact pfo_ret h2 _
theorem pf_brC (hcc : ∀ f p b I x, PF k f p b I → cc I F x = some (-1, I)) (hp : PF k f p b I) (x : Int32) : PFo k f p b I (brC cc I F x) := by
  unfold brC
  rw [fm_want hp.1 (by decide), sb]
  exact pf_brE hcc hp x
/-- the class's if behind the first braces -/
def ifC (cc : iT → fT → Int32 → Option (Int32 × iT)) (k : Nat) (I : iT) (F : fT) (x κ l : Int32) : Option (Int32 × iT) := (mX2_want I 313).bind fun q7 => (mX4_size (k + 47) q7).bind fun q8 => (mX4_put (k + 51) q7 κ q8).bind fun q9 => (brC cc q9 F x).bind fun q10 => some (if q10.1 < l then q10.1 else l, q10.2)
theorem pf_ifC (hcc : ∀ f p b I x, PF k f p b I → cc I F x = some (-1, I)) (hp : PF k f p b I) (x κ l : Int32) : PFo k f p b I (ifC cc k I F x κ l) := by
  have hk := pf_k hp
  unfold ifC
  rw [fm_want hp.1 (by decide), sb]
  exact pfo_r (fm_size hp.1 (by unfold rowA; omega)) (fun v => pfo_u (pf_putB hp (by unfold rowB; omega) _ _) (fun I1 h1 => pfo_o (pf_brC hcc h1 x) (fun y I2 h2 => pfo_ret h2 _)))
/-- the class's if behind its E -/
def ifB (cc : iT → fT → Int32 → Option (Int32 × iT)) (k : Nat) (I : iT) (F : fT) (x κ e : Int32) : Option (Int32 × iT) := (mX4_put (k + 53) I κ e).bind fun q5 => (brC cc q5 F x).bind fun q6 => ifC cc k q6.2 F x κ q6.1
theorem pf_ifB (hcc : ∀ f p b I x, PF k f p b I → cc I F x = some (-1, I)) (hp : PF k f p b I) (x κ e : Int32) : PFo k f p b I (ifB cc k I F x κ e) := by
  have hk := pf_k hp
  unfold ifB
  exact pfo_u (pf_putB hp (by unfold rowB; omega) _ _) (fun I1 h1 => pfo_o (pf_brC hcc h1 x) (fun y I2 h2 => pf_ifC hcc h2 _ _ _))
def ifA (cc : iT → fT → Int32 → Option (Int32 × iT)) (k : Nat) (I : iT) (F : fT) (x κ : Int32) : Option (Int32 × iT) := (mX2_advance I).bind fun q3 => (mX7_readSum SF q3 F 0 x).bind fun q4 => ifB cc k q4.2 F x κ q4.1
theorem pf_ifA (hcc : ∀ f p b I x, PF k f p b I → cc I F x = some (-1, I)) (hp : PF k f p b I) (x κ : Int32) : PFo k f p b I (ifA cc k I F x κ) := by
  unfold ifA
  rw [fm_adv hp.1, sb, pf_sumE hp, sb]
  exact pf_ifB hcc hp _ _ _
theorem if_eq (hF : F 134 4 = k) {Rc Rc2 : sc_3readAlternativeT} (h1 : Rc.2.1 = bX3_readBraced Rc2) (x1 : Int32) : bX3_readIf Rc I F x1 = (mX0_addNode k I 312).bind fun q1 => (mX3_refuseOpen q1.2 x1).bind fun q2 => ifA Rc2.2.2.2.2 k q2 F (x1 + 1) q1.1 := by
  unfold bX3_readIf
  rw [h1, hF]
  rfl
end
