/-! THE ROWS OF A RUN as lists by their addresses; the book that runs (pure) -/
def rnA (a : Nat) : Prop := 150 ≤ a ∧ a ≤ 184 ∧ a % 2 = 0
def RN (I : iT) (R : lT) : Prop := ∀ a, rnA a → rowIs I a (R a)
theorem lbump_nI (l : List Int32) {n : Nat} (h : n < 2 ^ 31) (v : Int32) : lbump l (nI n) v = l.set n (gI l n + v) := by
  unfold lbump
  rw [if_neg (nI_not0 h), nI_clamp h]
  rfl
section
variable {I : iT} {R : lT}
theorem rn_up (h : RN I R) {a : Nat} (ha : rnA a) {l : List Int32} {I' : iT} (hu : rowUp I a l I') : RN I' (upL R a l) := by
  intro b hb
  unfold rnA at ha hb
  by_cases q : b = a
  · subst q
    rw [upL_s]
    exact hu.1
  · rw [upL_n _ _ q]
    exact (h b hb).keep (hu.2 b q (by omega)) (hu.2 (b + 1) (by omega) (by omega))
theorem rn_keep (h : RN I R) {I' : iT} (hu : ∀ a, 150 ≤ a → a ≤ 185 → I' a = I a) : RN I' R := fun a ha => (h a ha).keep (hu a ha.1 (by have := ha.2.1; omega)) (hu (a + 1) (by have := ha.1; omega) (by have := ha.2.1; omega))
theorem rn_at (h : RN I R) {a : Nat} (ha : rnA a) (x : Int32) : mX4_at a I x = some (lat (R a) x) := row_at (h a ha) x
theorem rn_g (h : RN I R) {a : Nat} (ha : rnA a) {j : Nat} (hj : j < 2 ^ 31) : mX4_at a I (nI j) = some (gI (R a) j) := row_g (h a ha) hj
theorem rn_size (h : RN I R) {a : Nat} (ha : rnA a) : mX4_size a I = some (nI (R a).length) := row_size (h a ha)
theorem rn_len (h : RN I R) {a : Nat} (ha : rnA a) : (R a).length ≤ LEN (a + 1) := (h a ha).2.1
theorem rn_putA (h : RN I R) {a : Nat} (ha : rnA a) (x v : Int32) : ∃ I', mX4_put a I x v = some I' ∧ RN I' (upL R a (lput (R a) x v)) ∧ fr1 a I I' := by
  obtain ⟨I', e, u⟩ := row_put (h a ha) x v
  exact ⟨I', e, rn_up h ha u, u.2⟩
theorem rn_put (h : RN I R) {a : Nat} (ha : rnA a) {j : Nat} (hj : j < 2 ^ 31) (v : Int32) : ∃ I', mX4_put a I (nI j) v = some I' ∧ RN I' (upL R a ((R a).set j v)) ∧ fr1 a I I' := by
  obtain ⟨I', e, u, f⟩ := rn_putA h ha (nI j) v
  rw [lput_nI _ hj] at u
  exact ⟨I', e, u, f⟩
theorem rn_bump (h : RN I R) {a : Nat} (ha : rnA a) {j : Nat} (hj : j < 2 ^ 31) (v : Int32) : ∃ I', mX4_bump a I (nI j) v = some I' ∧ RN I' (upL R a ((R a).set j (gI (R a) j + v))) ∧ fr1 a I I' := by
  obtain ⟨I', e, u⟩ := row_bump (h a ha) (nI j) v
  rw [lbump_nI _ hj] at u
  exact ⟨I', e, rn_up h ha u, u.2⟩
theorem rn_clear (h : RN I R) {a : Nat} (ha : rnA a) : ∃ I', mX4_clear a I = some I' ∧ RN I' (upL R a []) ∧ fr1 a I I' := by
  obtain ⟨I', e, u⟩ := row_clear (I := I) (a := a)
  exact ⟨I', e, rn_up h ha u, u.2⟩
theorem rn_add (h : RN I R) {a : Nat} (ha : rnA a) (hr : (R a).length < LEN (a + 1)) (x : Int32) : ∃ I', mX4_add a I x = some (nI (R a).length, I') ∧ RN I' (upL R a (R a ++ [x])) ∧ fr1 a I I' := by
  obtain ⟨I', e, u⟩ := row_add (h a ha) hr x
  exact ⟨I', e, rn_up h ha u, u.2⟩
end
/-- the Rows of a book but the values of its Es -/
def rkA (k a : Nat) : Prop := (k + 2 ≤ a ∧ a ≤ k + 12 ∧ (a - k) % 2 = 0) ∨ (k + 19 ≤ a ∧ a ≤ k + 59 ∧ (a - k) % 2 = 1 ∧ a ≠ k + 27)
def RK (I : iT) (k : Nat) (L : lT) : Prop := (k = 12 ∨ k = 73) ∧ (∀ a, rkA k a → rowIs I a (L a)) ∧ ∃ V, rowIs I (k + 27) V ∧ V.length = (L (k + 19)).length
section
variable {I : iT} {k : Nat} {L : lT}
theorem rk_g (h : RK I k L) {a : Nat} (ha : rkA k a) {j : Nat} (hj : j < 2 ^ 31) : mX4_at a I (nI j) = some (gI (L a) j) := row_g (h.2.1 a ha) hj
theorem rk_at (h : RK I k L) {a : Nat} (ha : rkA k a) (x : Int32) : mX4_at a I x = some (lat (L a) x) := row_at (h.2.1 a ha) x
theorem rk_size (h : RK I k L) {a : Nat} (ha : rkA k a) : mX4_size a I = some (nI (L a).length) := row_size (h.2.1 a ha)
theorem rk_len (h : RK I k L) {a : Nat} (ha : rkA k a) : (L a).length ≤ LEN (a + 1) := (h.2.1 a ha).2.1
theorem rk_keep (h : RK I k L) {I' : iT} (hu : ∀ a, k + 2 ≤ a → a ≤ k + 60 → I' a = I a) : RK I' k L := by
  obtain ⟨h1, h2, V, h3, h4⟩ := h
  refine ⟨h1, fun a ha => (h2 a ha).keep (hu _ ?_ ?_) (hu _ ?_ ?_), V, h3.keep (hu _ (by omega) (by omega)) (hu _ (by omega) (by omega)), h4⟩ <;> unfold rkA at ha <;> omega
/-- the values of the Es change alone -/
theorem rk_27 (h : RK I k L) {I' : iT} (hu : ∀ a, k + 2 ≤ a → a ≤ k + 60 → a ≠ k + 27 → a ≠ k + 28 → I' a = I a) {V : List Int32} (hV : rowIs I' (k + 27) V) (hl : V.length = (L (k + 19)).length) : RK I' k L := by
  obtain ⟨h1, h2, _⟩ := h
  refine ⟨h1, fun a ha => (h2 a ha).keep (hu _ ?_ ?_ ?_ ?_) (hu _ ?_ ?_ ?_ ?_), V, hV, hl⟩ <;> unfold rkA at ha <;> omega
end
