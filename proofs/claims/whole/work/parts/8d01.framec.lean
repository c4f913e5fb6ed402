/-! FRAMES: what a step may write (pure; printed by wip/whole/gen_frame.py) -/
def OWf {α : Type} (g : α → iT) (P : iT → Prop) (o : Option α) : Prop := ∀ x, o = some x → P (g x)
def gU (x : iT) : iT := x
def gP (x : Int32 × iT) : iT := x.2
def gJ (x : iT × jT) : iT := x.1
def gQ (x : Int32 × iT × jT) : iT := x.2.1
def PTf (T : Nat → Nat → Prop) (I0 I : iT) : Prop := ∀ q i, ¬ T q i → I q i = I0 q i
section
variable {α β : Type} {g : α → iT} {g' : β → iT} {P : iT → Prop} {T : Nat → Nat → Prop} {I0 I : iT}
theorem ow_n : OWf g P none := fun x h => by cases h
theorem ow_sU {I : iT} (h : P I) : OWf gU P (some I) := fun x e => by cases e; exact h
theorem ow_sP {v : Int32} {I : iT} (h : P I) : OWf gP P (some (v, I)) := fun x e => by cases e; exact h
theorem ow_sJ {I : iT} {J : jT} (h : P I) : OWf gJ P (some (I, J)) := fun x e => by cases e; exact h
theorem ow_sQ {v : Int32} {I : iT} {J : jT} (h : P I) : OWf gQ P (some (v, I, J)) := fun x e => by cases e; exact h
theorem ow_if {c : Prop} [Decidable c] {a b : Option α} (h1 : OWf g P a) (h2 : OWf g P b) : OWf g P (if c then a else b) := by
  by_cases h : c
  · rw [if_pos h]; exact h1
  · rw [if_neg h]; exact h2
theorem ow_r {γ : Type} {o : Option γ} {f : γ → Option β} (h2 : ∀ x, OWf g' P (f x)) : OWf g' P (o.bind f) := by
  cases o with
  | none => exact ow_n
  | some a => exact h2 a
theorem ow_bU {o : Option iT} {f : iT → Option β} (h1 : OWf gU P o) (h2 : ∀ x, P x → OWf g' P (f x)) : OWf g' P (o.bind f) := by
  cases o with
  | none => exact ow_n
  | some a => exact h2 a (h1 a rfl)
theorem ow_bP {o : Option (Int32 × iT)} {f : Int32 × iT → Option β} (h1 : OWf gP P o) (h2 : ∀ x, P x.2 → OWf g' P (f x)) : OWf g' P (o.bind f) := by
  cases o with
  | none => exact ow_n
  | some a => exact h2 a (h1 a rfl)
theorem ow_bJ {o : Option (iT × jT)} {f : iT × jT → Option β} (h1 : OWf gJ P o) (h2 : ∀ x, P x.1 → OWf g' P (f x)) : OWf g' P (o.bind f) := by
  cases o with
  | none => exact ow_n
  | some a => exact h2 a (h1 a rfl)
theorem ow_bQ {o : Option (Int32 × iT × jT)} {f : Int32 × iT × jT → Option β} (h1 : OWf gQ P o) (h2 : ∀ x, P x.2.1 → OWf g' P (f x)) : OWf g' P (o.bind f) := by
  cases o with
  | none => exact ow_n
  | some a => exact h2 a (h1 a rfl)
theorem pt_w {q i : Nat} {v : Int32} (h : PTf T I0 I) (hq : T q i) : PTf T I0 (a_u2 I q i v) := by
  intro x y n
  rw [a_u2_n _ _ (fun e => n (by rw [e.1, e.2]; exact hq))]
  exact h x y n
end
def TC (F : fT) (q i : Nat) : Prop := q = F 148 12 + 27 ∨ q = F 148 12 + 28 ∨ (148 ≤ q ∧ q ≤ 185)
section
variable {F : fT} {I0 : iT}
theorem fc_mX4_clear {a0 : Nat} {I : iT} (ha : ∀ i, (TC F) a0 i ∧ (TC F) (a0 + 1) i) (h : PTf (TC F) I0 I) : OWf gU (PTf (TC F) I0) (mX4_clear a0 I) := by
  unfold mX4_clear
  repeat' first
    | with_reducible assumption
    | with_reducible exact ow_n
    | with_reducible apply ow_sU
    | with_reducible apply ow_sP
    | with_reducible apply ow_sJ
    | with_reducible apply ow_sQ
    | with_reducible apply ow_if
    | with_reducible apply ow_bU
    | with_reducible apply ow_bP
    | with_reducible apply ow_bJ
    | with_reducible apply ow_bQ
    | with_reducible apply ow_r
    | with_reducible apply pt_w
    | (intro i; exact ⟨(ha i).1, (ha i).2⟩)
    | (exact (ha _).1)
    | (exact (ha _).2)
    | intro _
theorem fc_mX6_advance_69 {I : iT} (h : PTf (TC F) I0 I) (x1 : Int32) (x2 : Int32) (x3 : Int32) : OWf gP (PTf (TC F) I0) (mX6_advance_69 I F x1 x2 x3) := by
  unfold mX6_advance_69
  repeat' first
    | with_reducible assumption
    | with_reducible exact ow_n
    | with_reducible apply ow_sU
    | with_reducible apply ow_sP
    | with_reducible apply ow_sJ
    | with_reducible apply ow_sQ
    | with_reducible apply ow_if
    | with_reducible apply fc_mX4_clear
    | with_reducible apply ow_bU
    | with_reducible apply ow_bP
    | with_reducible apply ow_bJ
    | with_reducible apply ow_bQ
    | with_reducible apply ow_r
    | with_reducible apply pt_w
    | with_reducible rfl
    | (intro i; unfold TC; omega)
    | (unfold TC; omega)
    | intro _
theorem fc_mX4_bump {a0 : Nat} {I : iT} (ha : ∀ i, (TC F) a0 i ∧ (TC F) (a0 + 1) i) (h : PTf (TC F) I0 I) (x1 : Int32) (x2 : Int32) : OWf gU (PTf (TC F) I0) (mX4_bump a0 I x1 x2) := by
  unfold mX4_bump
  repeat' first
    | with_reducible assumption
    | with_reducible exact ow_n
    | with_reducible apply ow_sU
    | with_reducible apply ow_sP
    | with_reducible apply ow_sJ
    | with_reducible apply ow_sQ
    | with_reducible apply ow_if
    | with_reducible apply ow_bU
    | with_reducible apply ow_bP
    | with_reducible apply ow_bJ
    | with_reducible apply ow_bQ
    | with_reducible apply ow_r
    | with_reducible apply pt_w
    | (intro i; exact ⟨(ha i).1, (ha i).2⟩)
    | (exact (ha _).1)
    | (exact (ha _).2)
    | intro _
theorem fc_mX4_put {a0 : Nat} {I : iT} (ha : ∀ i, (TC F) a0 i ∧ (TC F) (a0 + 1) i) (h : PTf (TC F) I0 I) (x1 : Int32) (x2 : Int32) : OWf gU (PTf (TC F) I0) (mX4_put a0 I x1 x2) := by
  unfold mX4_put
  repeat' first
    | with_reducible assumption
    | with_reducible exact ow_n
    | with_reducible apply ow_sU
    | with_reducible apply ow_sP
    | with_reducible apply ow_sJ
    | with_reducible apply ow_sQ
    | with_reducible apply ow_if
    | with_reducible apply ow_bU
    | with_reducible apply ow_bP
    | with_reducible apply ow_bJ
    | with_reducible apply ow_bQ
    | with_reducible apply ow_r
    | with_reducible apply pt_w
    | (intro i; exact ⟨(ha i).1, (ha i).2⟩)
    | (exact (ha _).1)
    | (exact (ha _).2)
    | intro _
theorem fc_mX8_evaluate_10 {a0 : Nat} (a2 : Nat) (ha : a0 = F 148 12 + 18) : ∀ (n : Nat) (I : iT) (z1 : Int32) (z2 : Int32) (z3 : Int32), PTf (TC F) I0 I → OWf gP (PTf (TC F) I0) (mX8_evaluate_10 a0 a2 n I z1 z2 z3) := by
  intro n
  induction n with
  | zero =>
    intros
    exact ow_n
  | succ n ih =>
    intro I z1 z2 z3 h
    rw [mX8_evaluate_10]
    repeat' first
      | with_reducible assumption
      | with_reducible exact ow_n
      | with_reducible apply ow_sU
      | with_reducible apply ow_sP
      | with_reducible apply ow_sJ
      | with_reducible apply ow_sQ
      | with_reducible apply ow_if
      | with_reducible apply ih
      | with_reducible apply fc_mX4_put
      | with_reducible apply ow_bU
      | with_reducible apply ow_bP
      | with_reducible apply ow_bJ
      | with_reducible apply ow_bQ
      | with_reducible apply ow_r
      | with_reducible apply pt_w
      | with_reducible rfl
      | (intro i; unfold TC; omega)
      | (unfold TC; omega)
      | intro _
theorem fc_mX8_evaluate {a0 : Nat} (a2 : Nat) {I : iT} (ha : a0 = F 148 12 + 18) (h : PTf (TC F) I0 I) (x1 : Int32) (x3 : Int32) : OWf gP (PTf (TC F) I0) (mX8_evaluate a0 a2 I x1 x3) := by
  unfold mX8_evaluate
  repeat' first
    | with_reducible assumption
    | with_reducible exact ow_n
    | with_reducible apply ow_sU
    | with_reducible apply ow_sP
    | with_reducible apply ow_sJ
    | with_reducible apply ow_sQ
    | with_reducible apply ow_if
    | with_reducible apply fc_mX8_evaluate_10
    | with_reducible apply ow_bU
    | with_reducible apply ow_bP
    | with_reducible apply ow_bJ
    | with_reducible apply ow_bQ
    | with_reducible apply ow_r
    | with_reducible apply pt_w
    | with_reducible rfl
    | (intro i; unfold TC; omega)
    | (unfold TC; omega)
    | intro _
theorem fc_mX6_numberOf {I : iT} (h : PTf (TC F) I0 I) (x1 : Int32) (x2 : Int32) : OWf gP (PTf (TC F) I0) (mX6_numberOf I F x1 x2) := by
  unfold mX6_numberOf
  repeat' first
    | with_reducible assumption
    | with_reducible exact ow_n
    | with_reducible apply ow_sU
    | with_reducible apply ow_sP
    | with_reducible apply ow_sJ
    | with_reducible apply ow_sQ
    | with_reducible apply ow_if
    | with_reducible apply fc_mX8_evaluate
    | with_reducible apply ow_bU
    | with_reducible apply ow_bP
    | with_reducible apply ow_bJ
    | with_reducible apply ow_bQ
    | with_reducible apply ow_r
    | with_reducible apply pt_w
    | with_reducible rfl
    | (intro i; unfold TC; omega)
    | (unfold TC; omega)
    | intro _
theorem fc_mX4_add {a0 : Nat} {I : iT} (ha : ∀ i, (TC F) a0 i ∧ (TC F) (a0 + 1) i) (h : PTf (TC F) I0 I) (x1 : Int32) : OWf gP (PTf (TC F) I0) (mX4_add a0 I x1) := by
  unfold mX4_add
  repeat' first
    | with_reducible assumption
    | with_reducible exact ow_n
    | with_reducible apply ow_sU
    | with_reducible apply ow_sP
    | with_reducible apply ow_sJ
    | with_reducible apply ow_sQ
    | with_reducible apply ow_if
    | with_reducible apply ow_bU
    | with_reducible apply ow_bP
    | with_reducible apply ow_bJ
    | with_reducible apply ow_bQ
    | with_reducible apply ow_r
    | with_reducible apply pt_w
    | (intro i; exact ⟨(ha i).1, (ha i).2⟩)
    | (exact (ha _).1)
    | (exact (ha _).2)
    | intro _
theorem fc_mX1_lay_80 {I : iT} (h : PTf (TC F) I0 I) (x1 : Int32) (x2 : Int32) (x3 : Int32) (x4 : Int32) (x5 : Int32) (x6 : Int32) : OWf gU (PTf (TC F) I0) (mX1_lay_80 I x1 x2 x3 x4 x5 x6) := by
  unfold mX1_lay_80
  repeat' first
    | with_reducible assumption
    | with_reducible exact ow_n
    | with_reducible apply ow_sU
    | with_reducible apply ow_sP
    | with_reducible apply ow_sJ
    | with_reducible apply ow_sQ
    | with_reducible apply ow_if
    | with_reducible apply fc_mX4_put
    | with_reducible apply fc_mX4_bump
    | with_reducible apply ow_bU
    | with_reducible apply ow_bP
    | with_reducible apply ow_bJ
    | with_reducible apply ow_bQ
    | with_reducible apply ow_r
    | with_reducible apply pt_w
    | with_reducible rfl
    | (intro i; unfold TC; omega)
    | (unfold TC; omega)
    | intro _
theorem fc_mX1_lay {I : iT} (h : PTf (TC F) I0 I) (x1 : Int32) (x2 : Int32) (x3 : Int32) (x4 : Int32) : OWf gU (PTf (TC F) I0) (mX1_lay I x1 x2 x3 x4) := by
  unfold mX1_lay
  repeat' first
    | with_reducible assumption
    | with_reducible exact ow_n
    | with_reducible apply ow_sU
    | with_reducible apply ow_sP
    | with_reducible apply ow_sJ
    | with_reducible apply ow_sQ
    | with_reducible apply ow_if
    | with_reducible apply fc_mX4_add
    | with_reducible apply fc_mX4_put
    | with_reducible apply fc_mX1_lay_80
    | with_reducible apply ow_bU
    | with_reducible apply ow_bP
    | with_reducible apply ow_bJ
    | with_reducible apply ow_bQ
    | with_reducible apply ow_r
    | with_reducible apply pt_w
    | with_reducible rfl
    | (intro i; unfold TC; omega)
    | (unfold TC; omega)
    | intro _
theorem fc_mX6_lay_19 {I : iT} (h : PTf (TC F) I0 I) (x1 : Int32) (x2 : Int32) (x3 : Int32) (x4 : Int32) (s0 : Int32) : OWf gU (PTf (TC F) I0) (mX6_lay_19 I F x1 x2 x3 x4 s0) := by
  unfold mX6_lay_19
  repeat' first
    | with_reducible assumption
    | with_reducible exact ow_n
    | with_reducible apply ow_sU
    | with_reducible apply ow_sP
    | with_reducible apply ow_sJ
    | with_reducible apply ow_sQ
    | with_reducible apply ow_if
    | with_reducible apply fc_mX1_lay
    | with_reducible apply ow_bU
    | with_reducible apply ow_bP
    | with_reducible apply ow_bJ
    | with_reducible apply ow_bQ
    | with_reducible apply ow_r
    | with_reducible apply pt_w
    | with_reducible rfl
    | (intro i; unfold TC; omega)
    | (unfold TC; omega)
    | intro _
theorem fc_mX6_lay {I : iT} (h : PTf (TC F) I0 I) (x1 : Int32) (x2 : Int32) (x3 : Int32) (x4 : Int32) : OWf gU (PTf (TC F) I0) (mX6_lay I F x1 x2 x3 x4) := by
  unfold mX6_lay
  repeat' first
    | with_reducible assumption
    | with_reducible exact ow_n
    | with_reducible apply ow_sU
    | with_reducible apply ow_sP
    | with_reducible apply ow_sJ
    | with_reducible apply ow_sQ
    | with_reducible apply ow_if
    | with_reducible apply fc_mX6_lay_19
    | with_reducible apply ow_bU
    | with_reducible apply ow_bP
    | with_reducible apply ow_bJ
    | with_reducible apply ow_bQ
    | with_reducible apply ow_r
    | with_reducible apply pt_w
    | with_reducible rfl
    | (intro i; unfold TC; omega)
    | (unfold TC; omega)
    | intro _
theorem fc_mX1_takeFirst {I : iT} (h : PTf (TC F) I0 I) (x1 : Int32) (x2 : Int32) : OWf gP (PTf (TC F) I0) (mX1_takeFirst I x1 x2) := by
  unfold mX1_takeFirst
  repeat' first
    | with_reducible assumption
    | with_reducible exact ow_n
    | with_reducible apply ow_sU
    | with_reducible apply ow_sP
    | with_reducible apply ow_sJ
    | with_reducible apply ow_sQ
    | with_reducible apply ow_if
    | with_reducible apply fc_mX4_put
    | with_reducible apply fc_mX4_bump
    | with_reducible apply ow_bU
    | with_reducible apply ow_bP
    | with_reducible apply ow_bJ
    | with_reducible apply ow_bQ
    | with_reducible apply ow_r
    | with_reducible apply pt_w
    | with_reducible rfl
    | (intro i; unfold TC; omega)
    | (unfold TC; omega)
    | intro _
theorem fc_mX6_setSlot {I : iT} (h : PTf (TC F) I0 I) (x1 : Int32) (x2 : Int32) (x3 : Int32) : OWf gU (PTf (TC F) I0) (mX6_setSlot I x1 x2 x3) := by
  unfold mX6_setSlot
  repeat' first
    | with_reducible assumption
    | with_reducible exact ow_n
    | with_reducible apply ow_sU
    | with_reducible apply ow_sP
    | with_reducible apply ow_sJ
    | with_reducible apply ow_sQ
    | with_reducible apply ow_if
    | with_reducible apply fc_mX4_put
    | with_reducible apply ow_bU
    | with_reducible apply ow_bP
    | with_reducible apply ow_bJ
    | with_reducible apply ow_bQ
    | with_reducible apply ow_r
    | with_reducible apply pt_w
    | with_reducible rfl
    | (intro i; unfold TC; omega)
    | (unfold TC; omega)
    | intro _
theorem fc_mX6_takeMessage {I : iT} (h : PTf (TC F) I0 I) (x1 : Int32) (x2 : Int32) : OWf gU (PTf (TC F) I0) (mX6_takeMessage I F x1 x2) := by
  unfold mX6_takeMessage
  repeat' first
    | with_reducible assumption
    | with_reducible exact ow_n
    | with_reducible apply ow_sU
    | with_reducible apply ow_sP
    | with_reducible apply ow_sJ
    | with_reducible apply ow_sQ
    | with_reducible apply ow_if
    | with_reducible apply fc_mX1_takeFirst
    | with_reducible apply fc_mX4_bump
    | with_reducible apply fc_mX6_setSlot
    | with_reducible apply fc_mX4_put
    | with_reducible apply ow_bU
    | with_reducible apply ow_bP
    | with_reducible apply ow_bJ
    | with_reducible apply ow_bQ
    | with_reducible apply ow_r
    | with_reducible apply pt_w
    | with_reducible rfl
    | (intro i; unfold TC; omega)
    | (unfold TC; omega)
    | intro _
theorem fc_mX6_gatherArgs_103 (k35 : iT → fT → Int32 → Int32 → Int32 → Int32 → Int32 → Option (iT)) {I : iT} (hk35 : ∀ (y0 : iT) (y2 : Int32) (y3 : Int32) (y4 : Int32) (y5 : Int32) (y6 : Int32), PTf (TC F) I0 y0 → OWf gU (PTf (TC F) I0) (k35 y0 F y2 y3 y4 y5 y6)) (h : PTf (TC F) I0 I) (x1 : Int32) (x2 : Int32) (x3 : Int32) (x4 : Int32) (x5 : Int32) (x6 : Int32) (s0 : Int32) : OWf gU (PTf (TC F) I0) (mX6_gatherArgs_103 k35 I F x1 x2 x3 x4 x5 x6 s0) := by
  unfold mX6_gatherArgs_103
  repeat' first
    | with_reducible assumption
    | with_reducible exact ow_n
    | with_reducible apply ow_sU
    | with_reducible apply ow_sP
    | with_reducible apply ow_sJ
    | with_reducible apply ow_sQ
    | with_reducible apply ow_if
    | with_reducible apply hk35
    | with_reducible apply fc_mX4_add
    | with_reducible apply ow_bU
    | with_reducible apply ow_bP
    | with_reducible apply ow_bJ
    | with_reducible apply ow_bQ
    | with_reducible apply ow_r
    | with_reducible apply pt_w
    | with_reducible rfl
    | (intro i; unfold TC; omega)
    | (unfold TC; omega)
    | intro _
theorem fc_mX6_gatherArgs_35  : ∀ (n : Nat) (I : iT) (z2 : Int32) (z3 : Int32) (z4 : Int32) (z5 : Int32) (z6 : Int32), PTf (TC F) I0 I → OWf gU (PTf (TC F) I0) (mX6_gatherArgs_35 n I F z2 z3 z4 z5 z6) := by
  intro n
  induction n with
  | zero =>
    intros
    exact ow_n
  | succ n ih =>
    intro I z2 z3 z4 z5 z6 h
    rw [mX6_gatherArgs_35]
    repeat' first
      | with_reducible assumption
      | with_reducible exact ow_n
      | with_reducible apply ow_sU
      | with_reducible apply ow_sP
      | with_reducible apply ow_sJ
      | with_reducible apply ow_sQ
      | with_reducible apply ow_if
      | with_reducible apply ih
      | with_reducible apply fc_mX6_numberOf
      | with_reducible apply fc_mX6_gatherArgs_103
      | with_reducible apply ow_bU
      | with_reducible apply ow_bP
      | with_reducible apply ow_bJ
      | with_reducible apply ow_bQ
      | with_reducible apply ow_r
      | with_reducible apply pt_w
      | with_reducible rfl
      | (intro i; unfold TC; omega)
      | (unfold TC; omega)
      | intro _
theorem fc_mX6_gatherArgs {I : iT} (h : PTf (TC F) I0 I) (x1 : Int32) (x2 : Int32) : OWf gU (PTf (TC F) I0) (mX6_gatherArgs I F x1 x2) := by
  unfold mX6_gatherArgs
  repeat' first
    | with_reducible assumption
    | with_reducible exact ow_n
    | with_reducible apply ow_sU
    | with_reducible apply ow_sP
    | with_reducible apply ow_sJ
    | with_reducible apply ow_sQ
    | with_reducible apply ow_if
    | with_reducible apply fc_mX4_clear
    | with_reducible apply fc_mX6_gatherArgs_35
    | with_reducible apply ow_bU
    | with_reducible apply ow_bP
    | with_reducible apply ow_bJ
    | with_reducible apply ow_bQ
    | with_reducible apply ow_r
    | with_reducible apply pt_w
    | with_reducible rfl
    | (intro i; unfold TC; omega)
    | (unfold TC; omega)
    | intro _
theorem fc_mX1_open_2  : ∀ (n : Nat) (I : iT) (z1 : Int32), PTf (TC F) I0 I → OWf gP (PTf (TC F) I0) (mX1_open_2 n I z1) := by
  intro n
  induction n with
  | zero =>
    intros
    exact ow_n
  | succ n ih =>
    intro I z1 h
    rw [mX1_open_2]
    repeat' first
      | with_reducible assumption
      | with_reducible exact ow_n
      | with_reducible apply ow_sU
      | with_reducible apply ow_sP
      | with_reducible apply ow_sJ
      | with_reducible apply ow_sQ
      | with_reducible apply ow_if
      | with_reducible apply ih
      | with_reducible apply fc_mX4_add
      | with_reducible apply ow_bU
      | with_reducible apply ow_bP
      | with_reducible apply ow_bJ
      | with_reducible apply ow_bQ
      | with_reducible apply ow_r
      | with_reducible apply pt_w
      | with_reducible rfl
      | (intro i; unfold TC; omega)
      | (unfold TC; omega)
      | intro _
theorem fc_mX1_open {I : iT} (h : PTf (TC F) I0 I) : OWf gP (PTf (TC F) I0) (mX1_open I) := by
  unfold mX1_open
  repeat' first
    | with_reducible assumption
    | with_reducible exact ow_n
    | with_reducible apply ow_sU
    | with_reducible apply ow_sP
    | with_reducible apply ow_sJ
    | with_reducible apply ow_sQ
    | with_reducible apply ow_if
    | with_reducible apply fc_mX1_open_2
    | with_reducible apply ow_bU
    | with_reducible apply ow_bP
    | with_reducible apply ow_bJ
    | with_reducible apply ow_bQ
    | with_reducible apply ow_r
    | with_reducible apply pt_w
    | with_reducible rfl
    | (intro i; unfold TC; omega)
    | (unfold TC; omega)
    | intro _
theorem fc_mX6_addProcess {I : iT} (h : PTf (TC F) I0 I) : OWf gP (PTf (TC F) I0) (mX6_addProcess I) := by
  unfold mX6_addProcess
  repeat' first
    | with_reducible assumption
    | with_reducible exact ow_n
    | with_reducible apply ow_sU
    | with_reducible apply ow_sP
    | with_reducible apply ow_sJ
    | with_reducible apply ow_sQ
    | with_reducible apply ow_if
    | with_reducible apply fc_mX4_add
    | with_reducible apply fc_mX1_open
    | with_reducible apply fc_mX6_setSlot
    | with_reducible apply ow_bU
    | with_reducible apply ow_bP
    | with_reducible apply ow_bJ
    | with_reducible apply ow_bQ
    | with_reducible apply ow_r
    | with_reducible apply pt_w
    | with_reducible rfl
    | (intro i; unfold TC; omega)
    | (unfold TC; omega)
    | intro _
theorem fc_mX6_goOn_46  : ∀ (n : Nat) (I : iT) (z2 : Int32) (z3 : Int32) (z4 : Int32), PTf (TC F) I0 I → OWf gU (PTf (TC F) I0) (mX6_goOn_46 n I F z2 z3 z4) := by
  intro n
  induction n with
  | zero =>
    intros
    exact ow_n
  | succ n ih =>
    intro I z2 z3 z4 h
    rw [mX6_goOn_46]
    repeat' first
      | with_reducible assumption
      | with_reducible exact ow_n
      | with_reducible apply ow_sU
      | with_reducible apply ow_sP
      | with_reducible apply ow_sJ
      | with_reducible apply ow_sQ
      | with_reducible apply ow_if
      | with_reducible apply ih
      | with_reducible apply fc_mX6_setSlot
      | with_reducible apply ow_bU
      | with_reducible apply ow_bP
      | with_reducible apply ow_bJ
      | with_reducible apply ow_bQ
      | with_reducible apply ow_r
      | with_reducible apply pt_w
      | with_reducible rfl
      | (intro i; unfold TC; omega)
      | (unfold TC; omega)
      | intro _
theorem fc_mX6_goOn {I : iT} (h : PTf (TC F) I0 I) (x1 : Int32) (x2 : Int32) : OWf gU (PTf (TC F) I0) (mX6_goOn I F x1 x2) := by
  unfold mX6_goOn
  repeat' first
    | with_reducible assumption
    | with_reducible exact ow_n
    | with_reducible apply ow_sU
    | with_reducible apply ow_sP
    | with_reducible apply ow_sJ
    | with_reducible apply ow_sQ
    | with_reducible apply ow_if
    | with_reducible apply fc_mX4_put
    | with_reducible apply fc_mX6_goOn_46
    | with_reducible apply ow_bU
    | with_reducible apply ow_bP
    | with_reducible apply ow_bJ
    | with_reducible apply ow_bQ
    | with_reducible apply ow_r
    | with_reducible apply pt_w
    | with_reducible rfl
    | (intro i; unfold TC; omega)
    | (unfold TC; omega)
    | intro _
theorem fc_mX6_makeProcess {I : iT} (h : PTf (TC F) I0 I) (x1 : Int32) (x2 : Int32) : OWf gU (PTf (TC F) I0) (mX6_makeProcess I F x1 x2) := by
  unfold mX6_makeProcess
  repeat' first
    | with_reducible assumption
    | with_reducible exact ow_n
    | with_reducible apply ow_sU
    | with_reducible apply ow_sP
    | with_reducible apply ow_sJ
    | with_reducible apply ow_sQ
    | with_reducible apply ow_if
    | with_reducible apply fc_mX6_addProcess
    | with_reducible apply fc_mX6_goOn
    | with_reducible apply fc_mX4_bump
    | with_reducible apply fc_mX6_setSlot
    | with_reducible apply ow_bU
    | with_reducible apply ow_bP
    | with_reducible apply ow_bJ
    | with_reducible apply ow_bQ
    | with_reducible apply ow_r
    | with_reducible apply pt_w
    | with_reducible rfl
    | (intro i; unfold TC; omega)
    | (unfold TC; omega)
    | intro _
theorem fc_mX1_append_65 {I : iT} (h : PTf (TC F) I0 I) (x1 : Int32) (x2 : Int32) : OWf gU (PTf (TC F) I0) (mX1_append_65 I x1 x2) := by
  unfold mX1_append_65
  repeat' first
    | with_reducible assumption
    | with_reducible exact ow_n
    | with_reducible apply ow_sU
    | with_reducible apply ow_sP
    | with_reducible apply ow_sJ
    | with_reducible apply ow_sQ
    | with_reducible apply ow_if
    | with_reducible apply fc_mX4_put
    | with_reducible apply fc_mX4_bump
    | with_reducible apply ow_bU
    | with_reducible apply ow_bP
    | with_reducible apply ow_bJ
    | with_reducible apply ow_bQ
    | with_reducible apply ow_r
    | with_reducible apply pt_w
    | with_reducible rfl
    | (intro i; unfold TC; omega)
    | (unfold TC; omega)
    | intro _
theorem fc_mX1_append {I : iT} (h : PTf (TC F) I0 I) (x1 : Int32) (x2 : Int32) : OWf gU (PTf (TC F) I0) (mX1_append I x1 x2) := by
  unfold mX1_append
  repeat' first
    | with_reducible assumption
    | with_reducible exact ow_n
    | with_reducible apply ow_sU
    | with_reducible apply ow_sP
    | with_reducible apply ow_sJ
    | with_reducible apply ow_sQ
    | with_reducible apply ow_if
    | with_reducible apply fc_mX4_put
    | with_reducible apply fc_mX1_append_65
    | with_reducible apply ow_bU
    | with_reducible apply ow_bP
    | with_reducible apply ow_bJ
    | with_reducible apply ow_bQ
    | with_reducible apply ow_r
    | with_reducible apply pt_w
    | with_reducible rfl
    | (intro i; unfold TC; omega)
    | (unfold TC; omega)
    | intro _
theorem fc_mX1_join {I : iT} (h : PTf (TC F) I0 I) (x1 : Int32) (x2 : Int32) : OWf gU (PTf (TC F) I0) (mX1_join I x1 x2) := by
  unfold mX1_join
  repeat' first
    | with_reducible assumption
    | with_reducible exact ow_n
    | with_reducible apply ow_sU
    | with_reducible apply ow_sP
    | with_reducible apply ow_sJ
    | with_reducible apply ow_sQ
    | with_reducible apply ow_if
    | with_reducible apply fc_mX1_append
    | with_reducible apply fc_mX4_put
    | with_reducible apply ow_bU
    | with_reducible apply ow_bP
    | with_reducible apply ow_bJ
    | with_reducible apply ow_bQ
    | with_reducible apply ow_r
    | with_reducible apply pt_w
    | with_reducible rfl
    | (intro i; unfold TC; omega)
    | (unfold TC; omega)
    | intro _
theorem fc_mX6_finish {I : iT} (h : PTf (TC F) I0 I) (x1 : Int32) : OWf gU (PTf (TC F) I0) (mX6_finish I x1) := by
  unfold mX6_finish
  repeat' first
    | with_reducible assumption
    | with_reducible exact ow_n
    | with_reducible apply ow_sU
    | with_reducible apply ow_sP
    | with_reducible apply ow_sJ
    | with_reducible apply ow_sQ
    | with_reducible apply ow_if
    | with_reducible apply fc_mX4_put
    | with_reducible apply ow_bU
    | with_reducible apply ow_bP
    | with_reducible apply ow_bJ
    | with_reducible apply ow_bQ
    | with_reducible apply ow_r
    | with_reducible apply pt_w
    | with_reducible rfl
    | (intro i; unfold TC; omega)
    | (unfold TC; omega)
    | intro _
theorem fc_mX6_keepSaid {I : iT} (h : PTf (TC F) I0 I) (x1 : Int32) (x2 : Int32) : OWf gU (PTf (TC F) I0) (mX6_keepSaid I x1 x2) := by
  unfold mX6_keepSaid
  repeat' first
    | with_reducible assumption
    | with_reducible exact ow_n
    | with_reducible apply ow_sU
    | with_reducible apply ow_sP
    | with_reducible apply ow_sJ
    | with_reducible apply ow_sQ
    | with_reducible apply ow_if
    | with_reducible apply fc_mX4_bump
    | with_reducible apply fc_mX4_add
    | with_reducible apply ow_bU
    | with_reducible apply ow_bP
    | with_reducible apply ow_bJ
    | with_reducible apply ow_bQ
    | with_reducible apply ow_r
    | with_reducible apply pt_w
    | with_reducible rfl
    | (intro i; unfold TC; omega)
    | (unfold TC; omega)
    | intro _
theorem fc_mX6_doStep {I : iT} (h : PTf (TC F) I0 I) (x1 : Int32) : OWf gU (PTf (TC F) I0) (mX6_doStep I F x1) := by
  unfold mX6_doStep
  repeat' first
    | with_reducible assumption
    | with_reducible exact ow_n
    | with_reducible apply ow_sU
    | with_reducible apply ow_sP
    | with_reducible apply ow_sJ
    | with_reducible apply ow_sQ
    | with_reducible apply ow_if
    | with_reducible apply fc_mX4_put
    | with_reducible apply fc_mX6_numberOf
    | with_reducible apply fc_mX6_lay
    | with_reducible apply fc_mX6_takeMessage
    | with_reducible apply fc_mX4_bump
    | with_reducible apply fc_mX6_gatherArgs
    | with_reducible apply fc_mX6_makeProcess
    | with_reducible apply fc_mX1_join
    | with_reducible apply fc_mX6_finish
    | with_reducible apply fc_mX6_goOn
    | with_reducible apply fc_mX6_keepSaid
    | with_reducible apply ow_bU
    | with_reducible apply ow_bP
    | with_reducible apply ow_bJ
    | with_reducible apply ow_bQ
    | with_reducible apply ow_r
    | with_reducible apply pt_w
    | with_reducible rfl
    | (intro i; unfold TC; omega)
    | (unfold TC; omega)
    | intro _
theorem fc_mX6_settle_91 (k2 : iT → fT → Int32 → Int32 → Option (iT)) {I : iT} (hk2 : ∀ (y0 : iT) (y2 : Int32) (y3 : Int32), PTf (TC F) I0 y0 → OWf gU (PTf (TC F) I0) (k2 y0 F y2 y3)) (h : PTf (TC F) I0 I) (x1 : Int32) (x2 : Int32) (x3 : Int32) (x4 : Int32) (s0 : Int32) (s1 : Int32) : OWf gU (PTf (TC F) I0) (mX6_settle_91 k2 I F x1 x2 x3 x4 s0 s1) := by
  unfold mX6_settle_91
  repeat' first
    | with_reducible assumption
    | with_reducible exact ow_n
    | with_reducible apply ow_sU
    | with_reducible apply ow_sP
    | with_reducible apply ow_sJ
    | with_reducible apply ow_sQ
    | with_reducible apply ow_if
    | with_reducible apply hk2
    | with_reducible apply fc_mX4_put
    | with_reducible apply ow_bU
    | with_reducible apply ow_bP
    | with_reducible apply ow_bJ
    | with_reducible apply ow_bQ
    | with_reducible apply ow_r
    | with_reducible apply pt_w
    | with_reducible rfl
    | (intro i; unfold TC; omega)
    | (unfold TC; omega)
    | intro _
theorem fc_mX6_settle_62 (k2 : iT → fT → Int32 → Int32 → Option (iT)) {I : iT} (hk2 : ∀ (y0 : iT) (y2 : Int32) (y3 : Int32), PTf (TC F) I0 y0 → OWf gU (PTf (TC F) I0) (k2 y0 F y2 y3)) (h : PTf (TC F) I0 I) (x1 : Int32) (x2 : Int32) (x3 : Int32) (s0 : Int32) : OWf gU (PTf (TC F) I0) (mX6_settle_62 k2 I F x1 x2 x3 s0) := by
  unfold mX6_settle_62
  repeat' first
    | with_reducible assumption
    | with_reducible exact ow_n
    | with_reducible apply ow_sU
    | with_reducible apply ow_sP
    | with_reducible apply ow_sJ
    | with_reducible apply ow_sQ
    | with_reducible apply ow_if
    | with_reducible apply hk2
    | with_reducible apply fc_mX6_settle_91
    | with_reducible apply ow_bU
    | with_reducible apply ow_bP
    | with_reducible apply ow_bJ
    | with_reducible apply ow_bQ
    | with_reducible apply ow_r
    | with_reducible apply pt_w
    | with_reducible rfl
    | (intro i; unfold TC; omega)
    | (unfold TC; omega)
    | intro _
theorem fc_mX6_settle_2  : ∀ (n : Nat) (I : iT) (z2 : Int32) (z3 : Int32), PTf (TC F) I0 I → OWf gU (PTf (TC F) I0) (mX6_settle_2 n I F z2 z3) := by
  intro n
  induction n with
  | zero =>
    intros
    exact ow_n
  | succ n ih =>
    intro I z2 z3 h
    rw [mX6_settle_2]
    repeat' first
      | with_reducible assumption
      | with_reducible exact ow_n
      | with_reducible apply ow_sU
      | with_reducible apply ow_sP
      | with_reducible apply ow_sJ
      | with_reducible apply ow_sQ
      | with_reducible apply ow_if
      | with_reducible apply ih
      | with_reducible apply fc_mX6_numberOf
      | with_reducible apply fc_mX6_settle_62
      | with_reducible apply ow_bU
      | with_reducible apply ow_bP
      | with_reducible apply ow_bJ
      | with_reducible apply ow_bQ
      | with_reducible apply ow_r
      | with_reducible apply pt_w
      | with_reducible rfl
      | (intro i; unfold TC; omega)
      | (unfold TC; omega)
      | intro _
theorem fc_mX6_settle {I : iT} (h : PTf (TC F) I0 I) (x1 : Int32) : OWf gU (PTf (TC F) I0) (mX6_settle I F x1) := by
  unfold mX6_settle
  repeat' first
    | with_reducible assumption
    | with_reducible exact ow_n
    | with_reducible apply ow_sU
    | with_reducible apply ow_sP
    | with_reducible apply ow_sJ
    | with_reducible apply ow_sQ
    | with_reducible apply ow_if
    | with_reducible apply fc_mX6_settle_2
    | with_reducible apply ow_bU
    | with_reducible apply ow_bP
    | with_reducible apply ow_bJ
    | with_reducible apply ow_bQ
    | with_reducible apply ow_r
    | with_reducible apply pt_w
    | with_reducible rfl
    | (intro i; unfold TC; omega)
    | (unfold TC; omega)
    | intro _
theorem fc_mX6_findReady_45 (k9 : iT → fT → Int32 → Option (iT)) {I : iT} (hk9 : ∀ (y0 : iT) (y2 : Int32), PTf (TC F) I0 y0 → OWf gU (PTf (TC F) I0) (k9 y0 F y2)) (h : PTf (TC F) I0 I) (x1 : Int32) : OWf gU (PTf (TC F) I0) (mX6_findReady_45 k9 I F x1) := by
  unfold mX6_findReady_45
  repeat' first
    | with_reducible assumption
    | with_reducible exact ow_n
    | with_reducible apply ow_sU
    | with_reducible apply ow_sP
    | with_reducible apply ow_sJ
    | with_reducible apply ow_sQ
    | with_reducible apply ow_if
    | with_reducible apply hk9
    | with_reducible apply ow_bU
    | with_reducible apply ow_bP
    | with_reducible apply ow_bJ
    | with_reducible apply ow_bQ
    | with_reducible apply ow_r
    | with_reducible apply pt_w
    | with_reducible rfl
    | (intro i; unfold TC; omega)
    | (unfold TC; omega)
    | intro _
theorem fc_mX6_findReady_9  : ∀ (n : Nat) (I : iT) (z2 : Int32), PTf (TC F) I0 I → OWf gU (PTf (TC F) I0) (mX6_findReady_9 n I F z2) := by
  intro n
  induction n with
  | zero =>
    intros
    exact ow_n
  | succ n ih =>
    intro I z2 h
    rw [mX6_findReady_9]
    repeat' first
      | with_reducible assumption
      | with_reducible exact ow_n
      | with_reducible apply ow_sU
      | with_reducible apply ow_sP
      | with_reducible apply ow_sJ
      | with_reducible apply ow_sQ
      | with_reducible apply ow_if
      | with_reducible apply ih
      | with_reducible apply fc_mX4_add
      | with_reducible apply fc_mX6_findReady_45
      | with_reducible apply ow_bU
      | with_reducible apply ow_bP
      | with_reducible apply ow_bJ
      | with_reducible apply ow_bQ
      | with_reducible apply ow_r
      | with_reducible apply pt_w
      | with_reducible rfl
      | (intro i; unfold TC; omega)
      | (unfold TC; omega)
      | intro _
theorem fc_mX6_findReady {I : iT} (h : PTf (TC F) I0 I) : OWf gU (PTf (TC F) I0) (mX6_findReady I F) := by
  unfold mX6_findReady
  repeat' first
    | with_reducible assumption
    | with_reducible exact ow_n
    | with_reducible apply ow_sU
    | with_reducible apply ow_sP
    | with_reducible apply ow_sJ
    | with_reducible apply ow_sQ
    | with_reducible apply ow_if
    | with_reducible apply fc_mX4_clear
    | with_reducible apply fc_mX6_findReady_9
    | with_reducible apply ow_bU
    | with_reducible apply ow_bP
    | with_reducible apply ow_bJ
    | with_reducible apply ow_bQ
    | with_reducible apply ow_r
    | with_reducible apply pt_w
    | with_reducible rfl
    | (intro i; unfold TC; omega)
    | (unfold TC; omega)
    | intro _
theorem fc_mX6_advance_83 {I : iT} (h : PTf (TC F) I0 I) (x1 : Int32) (x2 : Int32) (x3 : Int32) : OWf gP (PTf (TC F) I0) (mX6_advance_83 I F x1 x2 x3) := by
  unfold mX6_advance_83
  repeat' first
    | with_reducible assumption
    | with_reducible exact ow_n
    | with_reducible apply ow_sU
    | with_reducible apply ow_sP
    | with_reducible apply ow_sJ
    | with_reducible apply ow_sQ
    | with_reducible apply ow_if
    | with_reducible apply fc_mX4_bump
    | with_reducible apply fc_mX6_doStep
    | with_reducible apply fc_mX6_settle
    | with_reducible apply fc_mX6_findReady
    | with_reducible apply ow_bU
    | with_reducible apply ow_bP
    | with_reducible apply ow_bJ
    | with_reducible apply ow_bQ
    | with_reducible apply ow_r
    | with_reducible apply pt_w
    | with_reducible rfl
    | (intro i; unfold TC; omega)
    | (unfold TC; omega)
    | intro _
theorem fc_mX6_advance_45 {I : iT} (h : PTf (TC F) I0 I) (x1 : Int32) (x2 : Int32) (s0 : Int32) : OWf gP (PTf (TC F) I0) (mX6_advance_45 I F x1 x2 s0) := by
  unfold mX6_advance_45
  repeat' first
    | with_reducible assumption
    | with_reducible exact ow_n
    | with_reducible apply ow_sU
    | with_reducible apply ow_sP
    | with_reducible apply ow_sJ
    | with_reducible apply ow_sQ
    | with_reducible apply ow_if
    | with_reducible apply fc_mX6_advance_69
    | with_reducible apply fc_mX6_advance_83
    | with_reducible apply ow_bU
    | with_reducible apply ow_bP
    | with_reducible apply ow_bJ
    | with_reducible apply ow_bQ
    | with_reducible apply ow_r
    | with_reducible apply pt_w
    | with_reducible rfl
    | (intro i; unfold TC; omega)
    | (unfold TC; omega)
    | intro _
theorem fc_mX6_advance {I : iT} (h : PTf (TC F) I0 I) (x1 : Int32) : OWf gP (PTf (TC F) I0) (mX6_advance I F x1) := by
  unfold mX6_advance
  repeat' first
    | with_reducible assumption
    | with_reducible exact ow_n
    | with_reducible apply ow_sU
    | with_reducible apply ow_sP
    | with_reducible apply ow_sJ
    | with_reducible apply ow_sQ
    | with_reducible apply ow_if
    | with_reducible apply fc_mX6_advance_45
    | with_reducible apply ow_bU
    | with_reducible apply ow_bP
    | with_reducible apply ow_bJ
    | with_reducible apply ow_bQ
    | with_reducible apply ow_r
    | with_reducible apply pt_w
    | with_reducible rfl
    | (intro i; unfold TC; omega)
    | (unfold TC; omega)
    | intro _
theorem fc_mX11_run_77 (k21 : iT → fT → Int32 → Int32 → Int32 → Int32 → Int32 → Option (Int32 × iT)) {I : iT} (hk21 : ∀ (y0 : iT) (y2 : Int32) (y3 : Int32) (y4 : Int32) (y5 : Int32) (y6 : Int32), PTf (TC F) I0 y0 → OWf gP (PTf (TC F) I0) (k21 y0 F y2 y3 y4 y5 y6)) (h : PTf (TC F) I0 I) (x1 : Int32) (x2 : Int32) (x3 : Int32) (x4 : Int32) (x5 : Int32) (x6 : Int32) : OWf gP (PTf (TC F) I0) (mX11_run_77 k21 I F x1 x2 x3 x4 x5 x6) := by
  unfold mX11_run_77
  repeat' first
    | with_reducible assumption
    | with_reducible exact ow_n
    | with_reducible apply ow_sU
    | with_reducible apply ow_sP
    | with_reducible apply ow_sJ
    | with_reducible apply ow_sQ
    | with_reducible apply ow_if
    | with_reducible apply hk21
    | with_reducible apply ow_bU
    | with_reducible apply ow_bP
    | with_reducible apply ow_bJ
    | with_reducible apply ow_bQ
    | with_reducible apply ow_r
    | with_reducible apply pt_w
    | with_reducible rfl
    | (intro i; unfold TC; omega)
    | (unfold TC; omega)
    | intro _
theorem fc_mX11_run_21  : ∀ (n : Nat) (I : iT) (z2 : Int32) (z3 : Int32) (z4 : Int32) (z5 : Int32) (z6 : Int32), PTf (TC F) I0 I → OWf gP (PTf (TC F) I0) (mX11_run_21 n I F z2 z3 z4 z5 z6) := by
  intro n
  induction n with
  | zero =>
    intros
    exact ow_n
  | succ n ih =>
    intro I z2 z3 z4 z5 z6 h
    rw [mX11_run_21]
    repeat' first
      | with_reducible assumption
      | with_reducible exact ow_n
      | with_reducible apply ow_sU
      | with_reducible apply ow_sP
      | with_reducible apply ow_sJ
      | with_reducible apply ow_sQ
      | with_reducible apply ow_if
      | with_reducible apply ih
      | with_reducible apply fc_mX6_advance
      | with_reducible apply fc_mX11_run_77
      | with_reducible apply ow_bU
      | with_reducible apply ow_bP
      | with_reducible apply ow_bJ
      | with_reducible apply ow_bQ
      | with_reducible apply ow_r
      | with_reducible apply pt_w
      | with_reducible rfl
      | (intro i; unfold TC; omega)
      | (unfold TC; omega)
      | intro _
theorem fc_mX11_run {I : iT} (h : PTf (TC F) I0 I) (x1 : Int32) (x2 : Int32) : OWf gP (PTf (TC F) I0) (mX11_run I F x1 x2) := by
  unfold mX11_run
  repeat' first
    | with_reducible assumption
    | with_reducible exact ow_n
    | with_reducible apply ow_sU
    | with_reducible apply ow_sP
    | with_reducible apply ow_sJ
    | with_reducible apply ow_sQ
    | with_reducible apply ow_if
    | with_reducible apply fc_mX11_run_21
    | with_reducible apply ow_bU
    | with_reducible apply ow_bP
    | with_reducible apply ow_bJ
    | with_reducible apply ow_bQ
    | with_reducible apply ow_r
    | with_reducible apply pt_w
    | with_reducible rfl
    | (intro i; unfold TC; omega)
    | (unfold TC; omega)
    | intro _
end
