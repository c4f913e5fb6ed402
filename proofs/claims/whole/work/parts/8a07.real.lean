/-! CHANNELS THAT HAVE BECOME ONE, in both (pure) -/
def CHC (np : Nat) (R : lT) (B : iT) (rl dp : Nat → Nat) : Prop := (R 150).length = np ∧ np ≤ 80 ∧ ∀ x, x < np → rl x < np ∧ dp x ≤ 80 ∧ ((gI (R 150) x = -1 ∧ B 220 x = nI x ∧ rl x = x) ∨ ∃ y, y < np ∧ y ≠ x ∧ gI (R 150) x = nI y ∧ B 220 x = nI y ∧ rl x = rl y ∧ dp y < dp x)
section
variable {np : Nat} {R : lT} {I B : iT} {rl dp : Nat → Nat}
theorem fo_ok (hN : RN I R) (H : CHC np R B rl dp) {x : Nat} (hx : x < np) : mX1_follow I (nI x) = some (nI (rl x)) := by
  obtain ⟨h1, h2, h3⟩ := H
  have go : ∀ (d x i m : Nat) (x1 : Int32), x < np → dp x ≤ d → i + d ≤ 80 → mX1_follow_4 (m + d + 1) I x1 (nI x) (nI i) = some (nI (rl x)) := by
    intro d
    induction d with
    | zero =>
      intro x i m x1 hx hd hi
      obtain ⟨g1, g2, g3⟩ := h3 x hx
      have hr : gI (R 150) x = -1 ∧ rl x = x := by
        rcases g3 with ⟨a, _, b⟩ | ⟨y, _, _, _, _, _, z⟩
        · exact ⟨a, b⟩
        · omega
      rw [mX1_follow_4, rn_g hN (by unfold rnA; omega) (by omega), sb, if_pos hr.1, ite_self, hr.2]
    | succ d ih =>
      intro x i m x1 hx hd hi
      obtain ⟨g1, g2, g3⟩ := h3 x hx
      show mX1_follow_4 (m + d + 1 + 1) I x1 (nI x) (nI i) = _
      rw [mX1_follow_4, if_neg (show ¬ (80 : Int32) ≤ nI i from nI_ge (b := 80) (by omega) (by omega)), rn_g hN (by unfold rnA; omega) (by omega), sb]
      rcases g3 with ⟨a, _, b⟩ | ⟨y, y1, y2, y3, y4, y5, y6⟩
      · rw [if_pos a, b]
      · rw [y3, if_neg (nIm (by omega)), sb, nI_1, y5]
        exact ih y (i + 1) m x1 y1 (by omega) (by omega)
  have := go 80 x 0 (LF - 81) (nI x) hx (h3 x hx).2.1 (by omega)
  unfold mX1_follow
  exact this
theorem rl_ok (H : CHC np R B rl dp) {x : Nat} (hx : x < np) : mX12_real B (nI x) = some (nI (rl x)) := by
  obtain ⟨h1, h2, h3⟩ := H
  have go : ∀ (d x m : Nat) (x1 : Int32), x < np → dp x ≤ d → mX12_real_2 (m + d + 1) B x1 (nI x) = some (nI (rl x)) := by
    intro d
    induction d with
    | zero =>
      intro x m x1 hx hd
      obtain ⟨g1, g2, g3⟩ := h3 x hx
      have hr : B 220 x = nI x ∧ rl x = x := by
        rcases g3 with ⟨_, a, b⟩ | ⟨y, _, _, _, _, _, z⟩
        · exact ⟨a, b⟩
        · omega
      have g220 : B 220 (nI x).toNatClampNeg = nI x := (congrArg (B 220) (cl80 (by omega))).trans hr.1
      rw [mX12_real_2, if_pos (in80 (by omega)), g220, if_pos rfl, hr.2]
    | succ d ih =>
      intro x m x1 hx hd
      obtain ⟨g1, g2, g3⟩ := h3 x hx
      show mX12_real_2 (m + d + 1 + 1) B x1 (nI x) = _
      rcases g3 with ⟨_, a, b⟩ | ⟨y, y1, y2, y3, y4, y5, y6⟩
      · have g220 : B 220 (nI x).toNatClampNeg = nI x := (congrArg (B 220) (cl80 (by omega))).trans a
        rw [mX12_real_2, if_pos (in80 (by omega)), g220, if_pos rfl, b]
      · have g220 : B 220 (nI x).toNatClampNeg = nI y := (congrArg (B 220) (cl80 (by omega))).trans y4
        rw [mX12_real_2, if_pos (in80 (by omega)), g220, if_neg (fun z => y2 ((nI_eq (by omega) (by omega)).mp z)), if_pos (in80 (by omega)), y5]
        exact ih y m x1 y1 (by omega)
  have := go 80 x (LF - 81) (nI x) hx (h3 x hx).2.1
  unfold mX12_real
  exact this
theorem rl_rl (H : CHC np R B rl dp) : ∀ (d x : Nat), x < np → dp x ≤ d → rl (rl x) = rl x := by
  obtain ⟨h1, h2, h3⟩ := H
  intro d
  induction d with
  | zero =>
    intro x hx hd
    obtain ⟨g1, g2, g3⟩ := h3 x hx
    rcases g3 with ⟨_, _, b⟩ | ⟨y, _, _, _, _, _, z⟩
    · rw [b, b]
    · omega
  | succ d ih =>
    intro x hx hd
    obtain ⟨g1, g2, g3⟩ := h3 x hx
    rcases g3 with ⟨_, _, b⟩ | ⟨y, y1, y2, y3, y4, y5, y6⟩
    · rw [b, b]
    · rw [y5]
      exact ih y y1 (by omega)
theorem rl_root (H : CHC np R B rl dp) {x : Nat} (hx : x < np) : rl (rl x) = rl x := rl_rl H 80 x hx (H.2.2 x hx).2.1
theorem rl_lt (H : CHC np R B rl dp) {x : Nat} (hx : x < np) : rl x < np := (H.2.2 x hx).1
end
/-! rows of MESSAGES as lists of their numbers -/
def rq (g : Nat → Int32) : Int32 → List Nat → Prop
  | x, [] => x = -1
  | x, m :: l => x = nI m ∧ m < 700 ∧ rq g (g m) l
def cq (g : Nat → Int32) : Int32 → List Nat → Prop
  | _, [] => True
  | x, m :: l => x = nI m ∧ m < 600 ∧ cq g (g m) l
theorem cq_app {g g' : Nat → Int32} {z : Nat} {b : List Nat} : ∀ (a : List Nat) (x : Int32), cq g x (a ++ [z]) → (∀ y ∈ a, g' y = g y) → cq g' (g' z) b → cq g' x (a ++ [z] ++ b) := by
  intro a
  induction a with
  | nil => intro x h _ hb; exact ⟨h.1, h.2.1, hb⟩
  | cons y a ih =>
    intro x h hg hb
    exact ⟨h.1, h.2.1, by rw [hg y (List.mem_cons_self ..)]; exact ih (g y) h.2.2 (fun w hw => hg w (List.mem_cons_of_mem _ hw)) hb⟩
theorem rq_app {g g' : Nat → Int32} {z : Nat} {b : List Nat} : ∀ (a : List Nat) (x : Int32), rq g x (a ++ [z]) → (∀ y ∈ a, g' y = g y) → rq g' (g' z) b → rq g' x (a ++ [z] ++ b) := by
  intro a
  induction a with
  | nil => intro x h _ hb; exact ⟨h.1, h.2.1, hb⟩
  | cons y a ih =>
    intro x h hg hb
    exact ⟨h.1, h.2.1, by rw [hg y (List.mem_cons_self ..)]; exact ih (g y) h.2.2 (fun w hw => hg w (List.mem_cons_of_mem _ hw)) hb⟩
theorem cq_to {g g' : Nat → Int32} : ∀ (a : List Nat) (x : Int32), cq g x a → (∀ y ∈ a, g' y = g y) → cq g' x a := by
  intro a
  induction a with
  | nil => intro x _ _; trivial
  | cons y a ih =>
    intro x h hg
    exact ⟨h.1, h.2.1, by rw [hg y (List.mem_cons_self ..)]; exact ih (g y) h.2.2 (fun w hw => hg w (List.mem_cons_of_mem _ hw))⟩
theorem rq_to {g g' : Nat → Int32} : ∀ (a : List Nat) (x : Int32), rq g x a → (∀ y ∈ a, g' y = g y) → rq g' x a := by
  intro a
  induction a with
  | nil => intro x h _; exact h
  | cons y a ih =>
    intro x h hg
    exact ⟨h.1, h.2.1, by rw [hg y (List.mem_cons_self ..)]; exact ih (g y) h.2.2 (fun w hw => hg w (List.mem_cons_of_mem _ hw))⟩
theorem snoc_cases : ∀ l : List Nat, l = [] ∨ ∃ a z, l = a ++ [z] := by
  intro l
  induction l with
  | nil => exact Or.inl rfl
  | cons x l ih =>
    rcases ih with rfl | ⟨a, z, rfl⟩
    · exact Or.inr ⟨[], x, rfl⟩
    · exact Or.inr ⟨x :: a, z, rfl⟩
theorem snoc_inj {a b : List Nat} {x y : Nat} (h : a ++ [x] = b ++ [y]) : a = b ∧ x = y := by
  have h1 := List.append_inj' h rfl
  exact ⟨h1.1, List.head_eq_of_cons_eq h1.2⟩
theorem nd_last : ∀ (a : List Nat) (z : Nat), (a ++ [z]).Nodup → ¬ z ∈ a := by
  intro a
  induction a with
  | nil => intro z _ h; cases h
  | cons x a ih =>
    intro z h hz
    rw [List.cons_append, List.nodup_cons] at h
    rcases List.mem_cons.mp hz with q | q
    · subst q
      exact h.1 (List.mem_append.mpr (Or.inr (List.mem_cons_self ..)))
    · exact ih z h.2 q
/-- row r of the class, of the reference, holds the MESSAGES l -/
def QCc (R : lT) (r : Nat) (l : List Nat) : Prop := gI (R 156) r = nI l.length ∧ cq (gI (R 162)) (gI (R 152) r) l ∧ ∀ a z, l = a ++ [z] → gI (R 154) r = nI z
def QCr (B : iT) (r : Nat) (l : List Nat) : Prop := rq (B 225) (B 221 r) l ∧ ∀ a z, l = a ++ [z] → B 222 r = nI z
theorem rq_ne {g : Nat → Int32} {x : Int32} {l : List Nat} (h : rq g x l) : (x = -1 ↔ l = []) := by
  cases l with
  | nil => exact ⟨fun _ => rfl, fun _ => h⟩
  | cons m l =>
    obtain ⟨h1, h2, _⟩ := h
    exact ⟨fun z => absurd (h1.symm.trans z) (nIm (by omega)), fun z => (by cases z)⟩
