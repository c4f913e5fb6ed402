/-! THE ROWS THAT A READER USES, as lists by their addresses; the failed reader (pure) -/
def rowA (k a : Nat) : Prop := (k + 2 ≤ a ∧ a ≤ k + 16 ∧ (a - k) % 2 = 0) ∨ (k + 19 ≤ a ∧ a ≤ k + 59 ∧ (a - k) % 2 = 1) ∨ a = 143 ∨ a = 145
abbrev lT : Type := Nat → List Int32
def upL (L : lT) (a : Nat) (l : List Int32) : lT := fun x => if x = a then l else L x
theorem upL_s (L : lT) (a : Nat) (l : List Int32) : upL L a l a = l := if_pos rfl
theorem upL_n (L : lT) {a x : Nat} (l : List Int32) (h : x ≠ a) : upL L a l x = L x := if_neg h
def RS (I : iT) (k : Nat) (L : lT) : Prop := (k = 12 ∨ k = 73) ∧ ∀ a, rowA k a → rowIs I a (L a)
def fr1 (a : Nat) (I I' : iT) : Prop := ∀ b, b ≠ a → b ≠ a + 1 → I' b = I b
section
variable {I : iT} {k : Nat} {L : lT}
theorem rs_up (h : RS I k L) {a : Nat} (ha : rowA k a) {l : List Int32} {I' : iT} (hu : rowUp I a l I') : RS I' k (upL L a l) := by
  refine ⟨h.1, fun b hb => ?_⟩
  by_cases e : b = a
  · subst e; rw [upL_s]; exact hu.1
  · rw [upL_n _ _ e]
    have hk := h.1
    unfold rowA at ha hb
    exact (h.2 b hb).keep (hu.2 b e (by omega)) (hu.2 (b + 1) (by omega) (by omega))
theorem rs_keep (h : RS I k L) {I' : iT} (hu : ∀ a, rowA k a → I' a = I a ∧ I' (a + 1) = I (a + 1)) : RS I' k L := ⟨h.1, fun b hb => (h.2 b hb).keep (hu b hb).1 (hu b hb).2⟩
theorem rs_at (h : RS I k L) {a : Nat} (ha : rowA k a) (x : Int32) : mX4_at a I x = some (lat (L a) x) := row_at (h.2 a ha) x
theorem rs_size (h : RS I k L) {a : Nat} (ha : rowA k a) : mX4_size a I = some (nI (L a).length) := row_size (h.2 a ha)
theorem rs_find (h : RS I k L) {a : Nat} (ha : rowA k a) (x : Int32) : mX4_find a I x = some (lfind (L a) x) := row_find (h.2 a ha) x
theorem rs_put (h : RS I k L) {a : Nat} (ha : rowA k a) (x v : Int32) : ∃ I', mX4_put a I x v = some I' ∧ RS I' k (upL L a (lput (L a) x v)) ∧ fr1 a I I' := by
  obtain ⟨I', e1, e2⟩ := row_put (h.2 a ha) x v
  exact ⟨I', e1, rs_up h ha e2, e2.2⟩
theorem rs_bump (h : RS I k L) {a : Nat} (ha : rowA k a) (x v : Int32) : ∃ I', mX4_bump a I x v = some I' ∧ RS I' k (upL L a (lbump (L a) x v)) ∧ fr1 a I I' := by
  obtain ⟨I', e1, e2⟩ := row_bump (h.2 a ha) x v
  exact ⟨I', e1, rs_up h ha e2, e2.2⟩
theorem rs_cut (h : RS I k L) {a : Nat} (ha : rowA k a) (x : Int32) : ∃ I', mX4_cut a I x = some I' ∧ RS I' k (upL L a (lcut (L a) x)) ∧ fr1 a I I' := by
  obtain ⟨I', e1, e2⟩ := row_cut (h.2 a ha) x
  exact ⟨I', e1, rs_up h ha e2, e2.2⟩
theorem rs_clear (h : RS I k L) {a : Nat} (ha : rowA k a) : ∃ I', mX4_clear a I = some I' ∧ RS I' k (upL L a []) ∧ fr1 a I I' := by
  obtain ⟨I', e1, e2⟩ := row_clear (I := I) (a := a)
  exact ⟨I', e1, rs_up h ha e2, e2.2⟩
theorem rs_add (h : RS I k L) {a : Nat} (ha : rowA k a) (hr : (L a).length < LEN (a + 1)) (x : Int32) : ∃ I', mX4_add a I x = some (nI (L a).length, I') ∧ RS I' k (upL L a (L a ++ [x])) ∧ fr1 a I I' := by
  obtain ⟨I', e1, e2⟩ := row_add (h.2 a ha) hr x
  exact ⟨I', e1, rs_up h ha e2, e2.2⟩
theorem rs_addT (h : RS I k L) {a : Nat} (ha : rowA k a) (x : Int32) : ∃ v I' l, mX4_add a I x = some (v, I') ∧ RS I' k (upL L a l) ∧ fr1 a I I' := by
  by_cases hr : (L a).length < LEN (a + 1)
  · obtain ⟨I', e1, e2⟩ := rs_add h ha hr x
    exact ⟨_, I', _, e1, e2⟩
  · have hl := (h.2 a ha).2.1
    refine ⟨_, I, L a, row_addFull (h.2 a ha) (by omega) x, rs_up h ha ⟨h.2 a ha, fun _ _ _ => rfl⟩, fun _ _ _ => rfl⟩
theorem rs_sc (h : RS I k L) {c : Nat} (hc : c = 6 ∨ c = 134 ∨ c = 135 ∨ c = 142) (j : Nat) (v : Int32) : RS (a_u2 I c j v) k L := by
  have hk := h.1
  refine rs_keep h (fun a ha => ?_)
  unfold rowA at ha
  exact ⟨a_u2_r _ _ (by omega), a_u2_r _ _ (by omega)⟩
end
/-- the reader has failed: fault f at place p -/
def FM (k : Nat) (f p : Int32) (I : iT) : Prop := (∃ L, RS I k L) ∧ I 6 9 = f ∧ I 6 10 = p ∧ I 6 6 = 259 ∧ f ≠ 0
/-- what a reader leaves -/
def FX (k : Nat) (I I' : iT) : Prop := ∀ b, b ≠ 6 → ¬ (142 ≤ b ∧ b ≤ 146) → ¬ (k ≤ b ∧ b ≤ k + 60) → I' b = I b
theorem FX.rfl {k : Nat} {I : iT} : FX k I I := fun _ _ _ _ => Eq.refl _
theorem FX.trans {k : Nat} {I I1 I2 : iT} (h : FX k I I1) (h2 : FX k I1 I2) : FX k I I2 := fun b h1 h3 h4 => (h2 b h1 h3 h4).trans (h b h1 h3 h4)
theorem fr1_FX {k a : Nat} {I I' : iT} (ha : rowA k a) (h : fr1 a I I') : FX k I I' := by
  intro b h1 h2 h3
  unfold rowA at ha
  exact h b (by omega) (by omega)
theorem sc_FX {k c : Nat} {I : iT} (hc : c = 6 ∨ c = 142) (j : Nat) (v : Int32) : FX k I (a_u2 I c j v) := fun b h1 h2 h3 => a_u2_r _ _ (by omega)
/-- what a failed reader leaves: the Ts too -/
def FY (k : Nat) (I I' : iT) : Prop := ∀ b, b ≠ 6 → ¬ (142 ≤ b ∧ b ≤ 146) → ¬ (k + 17 ≤ b ∧ b ≤ k + 60) → I' b = I b
theorem FY.rfl {k : Nat} {I : iT} : FY k I I := fun _ _ _ _ => Eq.refl _
theorem FY.trans {k : Nat} {I I1 I2 : iT} (h : FY k I I1) (h2 : FY k I1 I2) : FY k I I2 := fun b h1 h3 h4 => (h2 b h1 h3 h4).trans (h b h1 h3 h4)
theorem FY_FX {k : Nat} {I I' : iT} (h : FY k I I') : FX k I I' := fun b h1 h2 h3 => h b h1 h2 (by omega)
def rowB (k a : Nat) : Prop := (k + 19 ≤ a ∧ a ≤ k + 59 ∧ (a - k) % 2 = 1) ∨ a = 143 ∨ a = 145
theorem rowB_A {k a : Nat} (h : rowB k a) : rowA k a := by unfold rowB at h; unfold rowA; omega
theorem fr1_FY {k a : Nat} {I I' : iT} (ha : rowB k a) (h : fr1 a I I') : FY k I I' := by
  intro b h1 h2 h3
  unfold rowB at ha
  exact h b (by omega) (by omega)
theorem sc_FY {k c : Nat} {I : iT} (hc : c = 6 ∨ c = 142) (j : Nat) (v : Int32) : FY k I (a_u2 I c j v) := fun b h1 h2 h3 => a_u2_r _ _ (by omega)
def FMo {α : Type} (k : Nat) (f p : Int32) (I : iT) (o : Option (α × iT)) : Prop := ∃ x I', o = some (x, I') ∧ FM k f p I' ∧ FY k I I'
def FMu (k : Nat) (f p : Int32) (I : iT) (o : Option iT) : Prop := ∃ I', o = some I' ∧ FM k f p I' ∧ FY k I I'
section
variable {α β : Type} {k : Nat} {f p : Int32} {I : iT}
theorem fmo_ret (h : FM k f p I) (x : α) : FMo k f p I (some (x, I)) := ⟨x, I, rfl, h, FY.rfl⟩
theorem fmu_ret (h : FM k f p I) : FMu k f p I (some I) := ⟨I, rfl, h, FY.rfl⟩
theorem fmo_o {o : Option (α × iT)} (h : FMo k f p I o) {g : α × iT → Option (β × iT)} (hg : ∀ x I', FM k f p I' → FMo k f p I' (g (x, I'))) : FMo k f p I (o.bind g) := by
  obtain ⟨x, I1, e, h1, h2⟩ := h
  obtain ⟨y, I2, e2, h3, h4⟩ := hg x I1 h1
  exact ⟨y, I2, by rw [e]; exact e2, h3, h2.trans h4⟩
theorem fmo_u {o : Option iT} (h : FMu k f p I o) {g : iT → Option (β × iT)} (hg : ∀ I', FM k f p I' → FMo k f p I' (g I')) : FMo k f p I (o.bind g) := by
  obtain ⟨I1, e, h1, h2⟩ := h
  obtain ⟨y, I2, e2, h3, h4⟩ := hg I1 h1
  exact ⟨y, I2, by rw [e]; exact e2, h3, h2.trans h4⟩
theorem fmu_o {o : Option (α × iT)} (h : FMo k f p I o) {g : α × iT → Option iT} (hg : ∀ x I', FM k f p I' → FMu k f p I' (g (x, I'))) : FMu k f p I (o.bind g) := by
  obtain ⟨x, I1, e, h1, h2⟩ := h
  obtain ⟨I2, e2, h3, h4⟩ := hg x I1 h1
  exact ⟨I2, by rw [e]; exact e2, h3, h2.trans h4⟩
theorem fmu_u {o : Option iT} (h : FMu k f p I o) {g : iT → Option iT} (hg : ∀ I', FM k f p I' → FMu k f p I' (g I')) : FMu k f p I (o.bind g) := by
  obtain ⟨I1, e, h1, h2⟩ := h
  obtain ⟨I2, e2, h3, h4⟩ := hg I1 h1
  exact ⟨I2, by rw [e]; exact e2, h3, h2.trans h4⟩
theorem fmo_r {o : Option α} (h : ∃ v, o = some v) {g : α → Option (β × iT)} (hg : ∀ v, FMo k f p I (g v)) : FMo k f p I (o.bind g) := by
  obtain ⟨v, e⟩ := h
  rw [e]; exact hg v
theorem fmu_r {o : Option α} (h : ∃ v, o = some v) {g : α → Option iT} (hg : ∀ v, FMu k f p I (g v)) : FMu k f p I (o.bind g) := by
  obtain ⟨v, e⟩ := h
  rw [e]; exact hg v
theorem fmo_e {o : Option α} {v : α} (h : o = some v) {g : α → Option (β × iT)} (hg : FMo k f p I (g v)) : FMo k f p I (o.bind g) := by
  rw [h]; exact hg
theorem fmu_e {o : Option α} {v : α} (h : o = some v) {g : α → Option iT} (hg : FMu k f p I (g v)) : FMu k f p I (o.bind g) := by
  rw [h]; exact hg
theorem fmo_if {c : Prop} [Decidable c] {a b : Option (α × iT)} (ha : FMo k f p I a) (hb : FMo k f p I b) : FMo k f p I (if c then a else b) := by
  by_cases h : c
  · rw [if_pos h]; exact ha
  · rw [if_neg h]; exact hb
theorem fmu_if {c : Prop} [Decidable c] {a b : Option iT} (ha : FMu k f p I a) (hb : FMu k f p I b) : FMu k f p I (if c then a else b) := by
  by_cases h : c
  · rw [if_pos h]; exact ha
  · rw [if_neg h]; exact hb
theorem fm_ne (h : FM k f p I) : ¬ I 6 9 = 0 := by rw [h.2.1]; exact h.2.2.2.2
theorem fm_adv (h : FM k f p I) : mX2_advance I = some I := by unfold mX2_advance; rw [if_neg (fm_ne h)]
theorem fm_refuse (h : FM k f p I) (x y : Int32) : mX2_refuse I x y = some I := by unfold mX2_refuse; rw [if_neg (fm_ne h)]
theorem fm_want (h : FM k f p I) {c : Int32} (hc : c ≠ 259) : mX2_want I c = some I := by
  unfold mX2_want
  rw [h.2.2.2.1, if_neg (fun e => hc e.symm), fm_refuse h, sb]
theorem fm_take (h : FM k f p I) : mX2_takeName I = some (0, I) := by
  unfold mX2_takeName
  rw [h.2.2.2.1, if_neg (by decide), fm_refuse h, sb]
theorem fm_skip (h : FM k f p I) {c : Int32} (hc : c ≠ 259) : mX2_skip I c = some (0, I) := by
  unfold mX2_skip
  rw [h.2.2.2.1, if_neg (fun e => hc e.symm)]
theorem fm_is (h : FM k f p I) {c : Int32} (hc : c ≠ 259) : mX2_is I c = some 0 := by
  unfold mX2_is
  rw [h.2.2.2.1, if_neg (fun e => hc e.symm)]
theorem fm_failed (h : FM k f p I) : mX2_failed I = some 1 := by
  unfold mX2_failed
  rw [if_neg (fm_ne h)]
theorem fm_at (h : FM k f p I) {a : Nat} (ha : rowA k a) (x : Int32) : ∃ v, mX4_at a I x = some v := h.1.elim fun _ hL => ⟨_, rs_at hL ha x⟩
theorem fm_size (h : FM k f p I) {a : Nat} (ha : rowA k a) : ∃ v, mX4_size a I = some v := h.1.elim fun _ hL => ⟨_, rs_size hL ha⟩
theorem fm_find (h : FM k f p I) {a : Nat} (ha : rowA k a) (x : Int32) : ∃ v, mX4_find a I x = some v := h.1.elim fun _ hL => ⟨_, rs_find hL ha x⟩
theorem fr1_6 {a : Nat} {I' : iT} (hk : k = 12 ∨ k = 73) (ha : rowA k a) (h : fr1 a I I') : I' 6 = I 6 := by
  unfold rowA at ha
  exact h 6 (by omega) (by omega)
theorem fm_of {I' : iT} (h : FM k f p I) (h6 : I' 6 = I 6) {L : lT} (hL : RS I' k L) : FM k f p I' := ⟨⟨L, hL⟩, by rw [h6]; exact h.2.1, by rw [h6]; exact h.2.2.1, by rw [h6]; exact h.2.2.2.1, h.2.2.2.2⟩
theorem fm_put (h : FM k f p I) {a : Nat} (ha : rowB k a) (x v : Int32) : FMu k f p I (mX4_put a I x v) := by
  obtain ⟨L, hL⟩ := h.1
  obtain ⟨I', e1, e2, e3⟩ := rs_put hL (rowB_A ha) x v
  exact ⟨I', e1, fm_of h (fr1_6 hL.1 (rowB_A ha) e3) e2, fr1_FY ha e3⟩
theorem fm_bump (h : FM k f p I) {a : Nat} (ha : rowB k a) (x v : Int32) : FMu k f p I (mX4_bump a I x v) := by
  obtain ⟨L, hL⟩ := h.1
  obtain ⟨I', e1, e2, e3⟩ := rs_bump hL (rowB_A ha) x v
  exact ⟨I', e1, fm_of h (fr1_6 hL.1 (rowB_A ha) e3) e2, fr1_FY ha e3⟩
theorem fm_cut (h : FM k f p I) {a : Nat} (ha : rowB k a) (x : Int32) : FMu k f p I (mX4_cut a I x) := by
  obtain ⟨L, hL⟩ := h.1
  obtain ⟨I', e1, e2, e3⟩ := rs_cut hL (rowB_A ha) x
  exact ⟨I', e1, fm_of h (fr1_6 hL.1 (rowB_A ha) e3) e2, fr1_FY ha e3⟩
theorem fm_clear (h : FM k f p I) {a : Nat} (ha : rowB k a) : FMu k f p I (mX4_clear a I) := by
  obtain ⟨L, hL⟩ := h.1
  obtain ⟨I', e1, e2, e3⟩ := rs_clear hL (rowB_A ha)
  exact ⟨I', e1, fm_of h (fr1_6 hL.1 (rowB_A ha) e3) e2, fr1_FY ha e3⟩
theorem fm_add (h : FM k f p I) {a : Nat} (ha : rowB k a) (x : Int32) : FMo k f p I (mX4_add a I x) := by
  obtain ⟨L, hL⟩ := h.1
  obtain ⟨v, I', l, e1, e2, e3⟩ := rs_addT hL (rowB_A ha) x
  exact ⟨v, I', e1, fm_of h (fr1_6 hL.1 (rowB_A ha) e3) e2, fr1_FY ha e3⟩
theorem fm_sc (h : FM k f p I) {c : Nat} (hc : c = 134 ∨ c = 135 ∨ c = 142) (j : Nat) (v : Int32) : FM k f p (a_u2 I c j v) := by
  obtain ⟨L, hL⟩ := h.1
  exact fm_of h (a_u2_r _ _ (by omega)) (rs_sc hL (Or.inr hc) j v)
end
/-- a fault begins: refuse in a reader that had none -/
theorem refuse_ok {I : iT} {k : Nat} {L : lT} (h : RS I k L) (h9 : I 6 9 = 0) {f : Int32} (hf : f ≠ 0) (p : Int32) : ∃ I', mX2_refuse I f p = some I' ∧ FM k f p I' ∧ FX k I I' ∧ ∀ b, b ≠ 6 → I' b = I b := by
  refine ⟨a_u2 (a_u2 (a_u2 I 6 9 f) 6 10 p) 6 6 259, ?_, ⟨⟨L, rs_sc (rs_sc (rs_sc h (Or.inl rfl) _ _) (Or.inl rfl) _ _) (Or.inl rfl) _ _⟩, ?_, ?_, a_u2_s _ _ _ _, hf⟩, fun b h1 _ _ => ?_, fun b h1 => ?_⟩
  · unfold mX2_refuse; rw [if_pos h9]
  · rw [a_u2_n _ _ (by decide), a_u2_n _ _ (by decide), a_u2_s]
  · rw [a_u2_n _ _ (by decide), a_u2_s]
  · rw [a_u2_r _ _ h1, a_u2_r _ _ h1, a_u2_r _ _ h1]
  · rw [a_u2_r _ _ h1, a_u2_r _ _ h1, a_u2_r _ _ h1]
/-! the type reader, failed -/
theorem fm_count {k : Nat} {f p : Int32} {I : iT} (h : FM k f p I) (x y : Int32) : FMu k f p I (mX9_countParts I x y) := by
  unfold mX9_countParts
  have h1 := fm_sc h (c := 142) (by decide) 4 (I 142 4 + x)
  have h2 : FY k I (a_u2 I 142 4 (I 142 4 + x)) := sc_FY (by decide) _ _
  by_cases hc : (a_u2 I 142 4 (I 142 4 + x)) 142 4 ≤ 200
  · rw [if_pos hc]; exact ⟨_, rfl, h1, h2⟩
  · rw [if_neg hc, fm_refuse h1, sb]; exact ⟨_, rfl, h1, h2⟩
theorem isTalk_0 : mX9_isTalkSign 259 = some 0 := by decide +kernel
theorem fm_type {k : Nat} {f p : Int32} {I : iT} (F : fT) (n : Nat) (h : FM k f p I) (x : Int32) : FMo k f p I (mX9_readType (n + 1) I F x) := by
  show FMo k f p I (bX9_readType (sc_9readChoice n) I F x)
  have h77 : ∀ I, FM k f p I → FMo k f p I (mX9_readType_77 (sc_9readChoice n) I F x 259) := by
    intro I h
    unfold mX9_readType_77
    refine fmo_u (fm_count h _ _) (fun I1 h1 => ?_)
    rw [fm_adv h1, sb, fm_failed h1, sb, if_neg i10]
    exact fmo_ret h1 _
  have h49 : ∀ I, FM k f p I → FMo k f p I (mX9_readType_49 (sc_9readChoice n) I F x 259) := by
    intro I h
    unfold mX9_readType_49
    rw [if_neg (by decide)]
    refine fmo_if (h77 I h) ?_
    rw [fm_refuse h, sb]
    exact h77 I h
  unfold bX9_readType
  rw [h.2.2.2.1]
  simp only [if_neg (show ¬ (259 : Int32) = 256 by decide), if_neg (show ¬ (259 : Int32) = 302 by decide), isTalk_0, sb, if_pos, fm_refuse h]
  exact h49 I h
