/-! BOTH CURSORS go on together; the frames of both readers (pure) -/
def cf (I I' : iT) : Prop := ∀ b i, ¬ (b = 6 ∧ 5 ≤ i ∧ i ≤ 8) → I' b i = I b i
def rf (B : iT) (J : jT) (B' : iT) (J' : jT) : Prop := (∀ b i, ¬ (b = 186 ∧ 2 ≤ i ∧ i ≤ 5) → B' b i = B b i) ∧ ∀ b i, ¬ (b = 186 ∧ i = 6) → J' b i = J b i
def touR (h b i : Nat) : Prop := (b = 186 ∧ ((2 ≤ i ∧ i ≤ 8) ∨ i = 17 ∨ (34 ≤ i ∧ i ≤ 36) ∨ (43 ≤ i ∧ i ≤ 51))) ∨ (188 ≤ b ∧ b ≤ 192 ∧ 1400 * h ≤ i ∧ i < 1400 * h + 1400) ∨ ((b = 193 ∨ b = 194 ∨ b = 196 ∨ b = 197 ∨ b = 198 ∨ (200 ≤ b ∧ b ≤ 203)) ∧ 12 * h ≤ i ∧ i < 12 * h + 12) ∨ ((b = 195 ∨ b = 199) ∧ 48 * h ≤ i ∧ i < 48 * h + 48) ∨ ((b = 204 ∨ b = 205) ∧ i = h) ∨ (206 ≤ b ∧ b ≤ 211)
/-- what the reference's reader leaves -/
def RX (h : Nat) (B : iT) (J : jT) (B' : iT) (J' : jT) : Prop := ∀ b i, ¬ touR h b i → B' b i = B b i ∧ J' b i = J b i
theorem RX.rfl {h : Nat} {B : iT} {J : jT} : RX h B J B J := fun _ _ _ => ⟨Eq.refl _, Eq.refl _⟩
theorem RX.trans {h : Nat} {B B1 B2 : iT} {J J1 J2 : jT} (a : RX h B J B1 J1) (b : RX h B1 J1 B2 J2) : RX h B J B2 J2 := fun x i q => ⟨(b x i q).1.trans (a x i q).1, (b x i q).2.trans (a x i q).2⟩
theorem rf_RX {h : Nat} {B B' : iT} {J J' : jT} (a : rf B J B' J') : RX h B J B' J' := by
  intro b i q
  unfold touR at q
  exact ⟨a.1 b i (by omega), a.2 b i (by omega)⟩
theorem RX_B {h : Nat} {B : iT} {J : jT} {b i : Nat} (v : Int32) (q : touR h b i) : RX h B J (a_u2 B b i v) J := fun x y n => ⟨a_u2_n _ _ (fun e => n (by rw [e.1, e.2]; exact q)), rfl⟩
theorem RX_J {h : Nat} {B : iT} {J : jT} {b i : Nat} (v : Int64) (q : touR h b i) : RX h B J B (a_u2 J b i v) := fun x y n => ⟨rfl, a_u2_n _ _ (fun e => n (by rw [e.1, e.2]; exact q))⟩
theorem cf_b {I I' : iT} (h : cf I I') {b : Nat} (hb : b ≠ 6) : I' b = I b := funext fun i => h b i (by omega)
theorem cf_FX {k : Nat} {I I' : iT} (h : cf I I') : FX k I I' := fun b h1 _ _ => cf_b h h1
theorem cf_RS {k : Nat} {L : lT} {I I' : iT} (h : cf I I') (hr : RS I k L) : RS I' k L := by
  have hk := hr.1
  refine rs_keep hr (fun a ha => ?_)
  unfold rowA at ha
  exact ⟨cf_b h (by omega), cf_b h (by omega)⟩
theorem CC_keep {I I' : iT} {t : Tok} {r : List Tok} (h : CC I t r) (h6 : ∀ i, 4 ≤ i → i ≤ 9 → I' 6 i = I 6 i) (h9 : I' 9 = I 9) (h10 : I' 10 = I 10) (h11 : I' 11 = I 11) : CC I' t r := by
  obtain ⟨a1, a2, a3, a4, a, a5, a6, a7, a8⟩ := h
  refine ⟨by rw [h6 9 (by omega) (by omega)]; exact a1, by rw [h6 6 (by omega) (by omega)]; exact a2, by rw [h6 7 (by omega) (by omega)]; exact a3, by rw [h6 8 (by omega) (by omega)]; exact a4, a, by rw [h6 5 (by omega) (by omega)]; exact a5, by rw [h6 4 (by omega) (by omega)]; exact a6, a7, noted_keep a8 h9 h10 h11⟩
theorem RC_keep {B B' : iT} {J J' : jT} {bs : List Nat} {t : Tok} {r : List Tok} (h : RC B J bs t r) (h1 : ∀ i, 1 ≤ i → i ≤ 5 → B' 186 i = B 186 i) (h2 : B' 187 = B 187) (h3 : J' 186 6 = J 186 6) : RC B' J' bs t r := by
  obtain ⟨a1, a2, a3, a4, a5, a6⟩ := h
  refine ⟨a1.keep (h1 1 (by omega) (by omega)) h2, by rw [h1 3 (by omega) (by omega)]; exact a2, by rw [h1 4 (by omega) (by omega)]; exact a3, by rw [h3]; exact a4, by rw [h1 5 (by omega) (by omega)]; exact a5, ?_⟩
  rw [h1 2 (by omega) (by omega)]; exact a6
section
variable {I B : iT} {J : jT} {bs : List Nat} {t : Tok} {r : List Tok}
theorem CR_I (h : CR I B J bs t r) {I' : iT} (h6 : I' 6 = I 6) (h9 : I' 9 = I 9) (h10 : I' 10 = I 10) (h11 : I' 11 = I 11) : CR I' B J bs t r := ⟨CC_keep h.1 (fun i _ _ => by rw [h6]) h9 h10 h11, h.2.1, h.2.2.1, h.2.2.2.1, by rw [h6]; exact h.2.2.2.2.1, h.2.2.2.2.2⟩
theorem CR_B (h : CR I B J bs t r) {B' : iT} {J' : jT} (h1 : ∀ i, 1 ≤ i → i ≤ 7 → B' 186 i = B 186 i) (h2 : B' 187 = B 187) (h3 : J' 186 6 = J 186 6) : CR I B' J' bs t r := ⟨h.1, RC_keep h.2.1 (fun i a b => h1 i a (by omega)) h2 h3, h.2.2.1, by rw [h1 7 (by omega) (by omega)]; exact h.2.2.2.1, h.2.2.2.2⟩
theorem cr_wf (h : CR I B J bs t r) : wft t := tkl_wf h.2.2.1
theorem cr_end (h : CR I B J bs t r) : t.2.2 ≤ 1000 := tkl_end r t h.2.2.1
theorem cr_9 (h : CR I B J bs t r) : I 6 9 = 0 := h.1.1
theorem cr_8 (h : CR I B J bs t r) : I 6 8 = nI t.2.2 := h.1.2.2.2.1
theorem cr_4 (h : CR I B J bs t r) : B 186 4 = nI t.2.2 := h.2.1.2.2.1
theorem cr_c (h : CR I B J bs t r) (c : Nat) (hc : c < 2 ^ 31) : I 6 6 = nI c ↔ t.1 = c := by
  have := (cr_wf h).1
  rw [h.1.2.1]; exact nI_eq (by omega) hc
theorem cr_r (h : CR I B J bs t r) (c : Nat) (hc : c ≤ 316) : B 186 3 = nI (rtok c) ↔ t.1 = c := by
  have h1 := (cr_wf h).1
  have h2 := rtok_lt t.1 h1
  have h3 := rtok_lt c hc
  rw [h.2.1.2.1, nI_eq (by omega) (by omega), rtok_inj h1 hc]
theorem cr_sign (h : CR I B J bs t r) (c : Nat) (hc : c < 256) : mX12_isSign B (nI c) = some (if t.1 = c then 1 else 0) := by
  have e := cr_r h c (by omega)
  have e2 : (400 : Int32) + nI c = nI (rtok c) := by
    unfold rtok
    rw [if_pos hc, ← nI_add]; rfl
  unfold mX12_isSign
  rw [e2]
  by_cases q : t.1 = c
  · rw [if_pos (e.mpr q), if_pos q]
  · rw [if_neg (fun x => q (e.mp x)), if_neg q]
theorem cr_is (h : CR I B J bs t r) (c : Nat) (hc : c < 2 ^ 31) : mX2_is I (nI c) = some (if t.1 = c then 1 else 0) := by
  have e := cr_c h c hc
  unfold mX2_is
  by_cases q : t.1 = c
  · rw [if_pos (e.mpr q), if_pos q]
  · rw [if_neg (fun x => q (e.mp x)), if_neg q]
theorem cr_failed (h : CR I B J bs t r) : mX2_failed I = some 0 := by
  unfold mX2_failed
  rw [if_pos (cr_9 h)]
/-- both go on by one token -/
theorem jadv (h : CR I B J bs t r) (hn : t.1 ≠ 260) : ∃ u r' I' B' J', r = u :: r' ∧ mX2_advance I = some I' ∧ mX12_look0 B J = some (B', J') ∧ CR I' B' J' bs u r' ∧ t.2.2 + tl t.1 ≤ u.2.2 ∧ cf I I' ∧ rf B J B' J' := by
  obtain ⟨h1, h2, h3, h4, h5, h6, h7⟩ := h
  obtain ⟨u, r', rfl, k1, k2⟩ := tkl_more h3 hn
  obtain ⟨I', a1, a2, a3⟩ := cadv h1
  obtain ⟨B', J', b1, b2, b3, b4⟩ := radv h6 h7 h2
  refine ⟨u, r', I', B', J', rfl, a1, b1, ⟨a2, b2, k1, by rw [b3 _ _ (by omega)]; exact h4, by rw [a3 _ _ (by omega)]; exact h5, h6, h7⟩, k2, a3, b3, b4⟩
/-- both fail: the same fault at the same place -/
def FAIL (k hf : Nat) (I : iT) (B : iT) (J : jT) (I' : iT) (B' : iT) (J' : jT) : Prop := ∃ f p, FM k f p I' ∧ FX k I I' ∧ B' 186 7 = f ∧ B' 186 8 = p ∧ RX hf B J B' J'
theorem FAIL.pre {k hf : Nat} {I I1 I2 B B1 B2 : iT} {J J1 J2 : jT} (a : FX k I I1) (b : RX hf B J B1 J1) (c : FAIL k hf I1 B1 J1 I2 B2 J2) : FAIL k hf I B J I2 B2 J2 := by
  obtain ⟨f, p, c1, c2, c3, c4, c5⟩ := c
  exact ⟨f, p, c1, a.trans c2, c3, c4, b.trans c5⟩
/-- behind a fault the class goes on as it may -/
theorem FAIL.post {k hf : Nat} {I I1 I2 B B1 : iT} {J J1 : jT} (c : FAIL k hf I B J I1 B1 J1) (a : ∀ f p, FM k f p I1 → FM k f p I2 ∧ FX k I1 I2) : FAIL k hf I B J I2 B1 J1 := by
  obtain ⟨f, p, c1, c2, c3, c4, c5⟩ := c
  obtain ⟨a1, a2⟩ := a f p c1
  exact ⟨f, p, a1, c2.trans a2, c3, c4, c5⟩
theorem bad_ok (h : CR I B J bs t r) (f p : Int32) : ∃ B', mX12_bad B f p = some (0, B') ∧ B' 186 7 = f ∧ B' 186 8 = p ∧ ∀ b i, ¬ (b = 186 ∧ (i = 7 ∨ i = 8)) → B' b i = B b i := by
  refine ⟨a_u2 (a_u2 B 186 7 f) 186 8 p, ?_, ?_, a_u2_s _ _ _ _, fun b i q => ?_⟩
  · unfold mX12_bad; rw [if_pos h.2.2.2.1]
  · rw [a_u2_n _ _ (by decide), a_u2_s]
  · rw [a_u2_n _ _ (by omega), a_u2_n _ _ (by omega)]
/-- both refuse at once -/
theorem jbad (h : CR I B J bs t r) {k : Nat} {L : lT} (hr : RS I k L) (hf : Nat) {f : Int32} (hn : f ≠ 0) (p : Int32) : ∃ I' B', mX2_refuse I f p = some I' ∧ mX12_bad B f p = some (0, B') ∧ FAIL k hf I B J I' B' J ∧ (∀ b, b ≠ 6 → I' b = I b) := by
  obtain ⟨I', a1, a2, a3, a4⟩ := refuse_ok hr (cr_9 h) hn p
  obtain ⟨B', b1, b2, b3, b4⟩ := bad_ok h f p
  refine ⟨I', B', a1, b1, ⟨f, p, a2, a3, b2, b3, fun b i q => ⟨b4 b i ?_, rfl⟩⟩, a4⟩
  unfold touR at q
  omega
theorem jneed (h : CR I B J bs t r) {k : Nat} {L : lT} (hr : RS I k L) (hf : Nat) (c : Nat) (hc : c < 256) :
    (t.1 = c ∧ ∃ u r' I' B' J', r = u :: r' ∧ mX2_want I (nI c) = some I' ∧ mX12_need B J (nI c) = some (1, B', J') ∧ CR I' B' J' bs u r' ∧ t.2.2 + tl t.1 ≤ u.2.2 ∧ cf I I' ∧ rf B J B' J') ∨
    (t.1 ≠ c ∧ ∃ I' B', mX2_want I (nI c) = some I' ∧ mX12_need B J (nI c) = some (0, B', J) ∧ FAIL k hf I B J I' B' J) := by
  have e1 := cr_c h c (by omega)
  have e2 := cr_sign h c hc
  by_cases q : t.1 = c
  · left
    refine ⟨q, ?_⟩
    obtain ⟨u, r', I', B', J', k1, k2, k3, k4, k5, k6, k7⟩ := jadv h (by omega)
    refine ⟨u, r', I', B', J', k1, ?_, ?_, k4, k5, k6, k7⟩
    · unfold mX2_want; rw [if_pos (e1.mpr q), k2, sb]
    · unfold mX12_need; rw [e2, if_pos q, sb, if_neg i10, k3, sb]
  · right
    refine ⟨q, ?_⟩
    obtain ⟨I', B', a1, a2, a3, _⟩ := jbad h hr hf (f := 1) (by decide) (nI t.2.2)
    refine ⟨I', B', ?_, ?_, a3⟩
    · unfold mX2_want; rw [if_neg (fun x => q (e1.mp x)), cr_8 h, a1, sb]
    · unfold mX12_need; rw [e2, if_neg q, sb, if_pos rfl, cr_4 h, a2, sb, if_pos (Or.inl rfl)]
end
