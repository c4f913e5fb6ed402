/-! ROWS AS LISTS (pure) -/
theorem LEN_le (a : Nat) : LEN a ≤ 10240 := by
  have h : ∀ x ∈ LENL, x ≤ 10240 := by decide +kernel
  unfold LEN
  rw [List.getD_eq_getElem?_getD]
  cases hx : LENL[a]? with
  | none => exact Nat.zero_le _
  | some v => exact h v (List.mem_of_getElem? hx)
/-- Row a holds the list l -/
def rowIs (I : iT) (a : Nat) (l : List Int32) : Prop := I a 1 = nI l.length ∧ l.length ≤ LEN (a + 1) ∧ ∀ i, i < l.length → I (a + 1) i = l.getD i (-1)
/-- Row a holds l now; no other Row's cells have changed -/
def rowUp (I : iT) (a : Nat) (l : List Int32) (I' : iT) : Prop := rowIs I' a l ∧ ∀ b, b ≠ a → b ≠ a + 1 → I' b = I b
def lat (l : List Int32) (x : Int32) : Int32 := if x < 0 then -1 else l.getD x.toNatClampNeg (-1)
def lput (l : List Int32) (x v : Int32) : List Int32 := if x < 0 then l else l.set x.toNatClampNeg v
def lbump (l : List Int32) (x v : Int32) : List Int32 := if x < 0 then l else l.set x.toNatClampNeg (l.getD x.toNatClampNeg (-1) + v)
def lcut (l : List Int32) (x : Int32) : List Int32 := if x < 0 then l else l.take x.toNatClampNeg
def lfindF (v : Int32) : List Int32 → Nat → Int32
  | [], _ => -1
  | b :: l, k => if b = v then nI k else lfindF v l (k + 1)
def lfind (l : List Int32) (v : Int32) : Int32 := lfindF v l 0
theorem row_len {I : iT} {a : Nat} {l : List Int32} (h : rowIs I a l) : l.length ≤ 10240 := Nat.le_trans h.2.1 (LEN_le _)
theorem i32_cases (x : Int32) : x < 0 ∨ ∃ n, n < 2 ^ 31 ∧ x = nI n := by
  by_cases h : x < 0
  · exact Or.inl h
  · exact Or.inr (nI_of h)
theorem nI_not0 {n : Nat} (h : n < 2 ^ 31) : ¬ nI n < 0 := nI_pos h
theorem lat_nI {l : List Int32} {n : Nat} (h : n < 2 ^ 31) : lat l (nI n) = l.getD n (-1) := by
  unfold lat
  rw [if_neg (nI_not0 h), nI_clamp h]
theorem lat_neg {l : List Int32} {x : Int32} (h : x < 0) : lat l x = -1 := if_pos h
theorem row_at {I : iT} {a : Nat} {l : List Int32} (h : rowIs I a l) (x : Int32) : mX4_at a I x = some (lat l x) := by
  have hl := row_len h
  unfold mX4_at
  rcases i32_cases x with hx | ⟨n, hn, rfl⟩
  · rw [if_pos hx, lat_neg hx]
  · rw [if_neg (nI_not0 hn), lat_nI hn, h.1]
    by_cases hc : l.length ≤ n
    · rw [if_pos (nI_le hc hn), List.getD_eq_getElem?_getD, List.getElem?_eq_none hc]; rfl
    · rw [if_neg (nI_ge (by omega) (by omega)), if_pos (show inb (nI n) (LEN (a + 1)) from vp_in_nI (by have := h.2.1; omega) (by have := LEN_le (a + 1); omega)), nI_clamp hn, h.2.2 n (by omega)]
theorem row_size {I : iT} {a : Nat} {l : List Int32} (h : rowIs I a l) : mX4_size a I = some (nI l.length) := by
  unfold mX4_size
  rw [h.1]
theorem row_clear {I : iT} {a : Nat} : ∃ I', mX4_clear a I = some I' ∧ rowUp I a [] I' := by
  refine ⟨_, rfl, ⟨?_, Nat.zero_le _, fun i hi => by cases hi⟩, fun b h1 _ => a_u2_r _ _ h1⟩
  rw [a_u2_s]; exact nI_0.symm
theorem row_cut {I : iT} {a : Nat} {l : List Int32} (h : rowIs I a l) (x : Int32) : ∃ I', mX4_cut a I x = some I' ∧ rowUp I a (lcut l x) I' := by
  have hl := row_len h
  unfold mX4_cut lcut
  rcases i32_cases x with hx | ⟨n, hn, rfl⟩
  · rw [if_pos hx, if_pos hx]; exact ⟨I, rfl, h, fun _ _ _ => rfl⟩
  · rw [if_neg (nI_not0 hn), if_neg (nI_not0 hn), h.1, nI_clamp hn]
    by_cases hc : l.length ≤ n
    · rw [if_pos (nI_le hc hn), List.take_of_length_le hc]; exact ⟨I, rfl, h, fun _ _ _ => rfl⟩
    · rw [if_neg (nI_ge (by omega) (by omega))]
      refine ⟨_, rfl, ⟨?_, ?_, fun i hi => ?_⟩, fun b h1 _ => a_u2_r _ _ h1⟩
      · rw [a_u2_s, List.length_take, Nat.min_eq_left (by omega)]
      · rw [List.length_take]; have := h.2.1; omega
      · rw [List.length_take] at hi
        rw [a_u2_r _ _ (by omega), h.2.2 i (by omega), List.getD_eq_getElem?_getD, List.getD_eq_getElem?_getD, List.getElem?_take_of_lt (by omega)]
theorem rowIs_set {I : iT} {a : Nat} {l : List Int32} (h : rowIs I a l) {n : Nat} (hn : n < l.length) (v : Int32) : rowUp I a (l.set n v) (a_u2 I (a + 1) n v) := by
  refine ⟨⟨?_, ?_, fun i hi => ?_⟩, fun b _ h2 => a_u2_r _ _ h2⟩
  · rw [a_u2_r _ _ (by omega), List.length_set]; exact h.1
  · rw [List.length_set]; exact h.2.1
  · rw [List.length_set] at hi
    by_cases e : i = n
    · subst e; rw [a_u2_s, List.getD_eq_getElem?_getD, List.getElem?_set_self hi]; rfl
    · rw [a_u2_n _ _ (by omega), h.2.2 i hi, List.getD_eq_getElem?_getD, List.getD_eq_getElem?_getD, List.getElem?_set_ne (fun q => e q.symm)]
theorem row_put {I : iT} {a : Nat} {l : List Int32} (h : rowIs I a l) (x v : Int32) : ∃ I', mX4_put a I x v = some I' ∧ rowUp I a (lput l x v) I' := by
  have hl := row_len h
  unfold mX4_put lput
  rcases i32_cases x with hx | ⟨n, hn, rfl⟩
  · rw [if_pos hx, if_pos hx]; exact ⟨I, rfl, h, fun _ _ _ => rfl⟩
  · rw [if_neg (nI_not0 hn), if_neg (nI_not0 hn), h.1]
    by_cases hc : l.length ≤ n
    · rw [if_pos (nI_le hc hn), nI_clamp hn, List.set_eq_of_length_le hc]; exact ⟨I, rfl, h, fun _ _ _ => rfl⟩
    · rw [if_neg (nI_ge (by omega) (by omega)), if_pos (show inb (nI n) (LEN (a + 1)) from vp_in_nI (by have := h.2.1; omega) (by have := LEN_le (a + 1); omega)), nI_clamp hn]
      exact ⟨_, rfl, rowIs_set h (by omega) v⟩
theorem row_bump {I : iT} {a : Nat} {l : List Int32} (h : rowIs I a l) (x v : Int32) : ∃ I', mX4_bump a I x v = some I' ∧ rowUp I a (lbump l x v) I' := by
  have hl := row_len h
  unfold mX4_bump lbump
  rcases i32_cases x with hx | ⟨n, hn, rfl⟩
  · rw [if_pos hx, if_pos hx]; exact ⟨I, rfl, h, fun _ _ _ => rfl⟩
  · rw [if_neg (nI_not0 hn), if_neg (nI_not0 hn), h.1]
    by_cases hc : l.length ≤ n
    · rw [if_pos (nI_le hc hn), nI_clamp hn, List.set_eq_of_length_le hc]; exact ⟨I, rfl, h, fun _ _ _ => rfl⟩
    · have hi : inb (nI n) (LEN (a + 1)) := vp_in_nI (by have := h.2.1; omega) (by have := LEN_le (a + 1); omega)
      rw [if_neg (nI_ge (by omega) (by omega)), if_pos hi, if_pos hi, nI_clamp hn, h.2.2 n (by omega)]
      exact ⟨_, rfl, rowIs_set h (by omega) _⟩
theorem row_add {I : iT} {a : Nat} {l : List Int32} (h : rowIs I a l) (hr : l.length < LEN (a + 1)) (x : Int32) : ∃ I', mX4_add a I x = some (nI l.length, I') ∧ rowUp I a (l ++ [x]) I' := by
  have hl := row_len h
  have hL := LEN_le (a + 1)
  unfold mX4_add
  rw [h.1, if_pos (nI_lt hr (by omega)), if_pos (show inb (nI l.length) (LEN (a + 1)) from vp_in_nI hr (by omega)), nI_clamp (by omega), a_u2_r _ _ (show a ≠ a + 1 by omega), h.1, a_u2_s, nI_1]
  refine ⟨_, by rw [nI_pred], ⟨?_, ?_, fun i hi => ?_⟩, fun b h1 h2 => by rw [a_u2_r _ _ h1, a_u2_r _ _ h2]⟩
  · rw [a_u2_s, List.length_append]; rfl
  · rw [List.length_append]; exact hr
  · rw [List.length_append] at hi
    have hi' : i < l.length + 1 := hi
    rw [a_u2_r _ _ (show a + 1 ≠ a by omega), List.getD_eq_getElem?_getD]
    by_cases e : i = l.length
    · subst e; rw [a_u2_s, List.getElem?_concat_length]; rfl
    · rw [a_u2_n _ _ (by omega), h.2.2 i (by omega), List.getD_eq_getElem?_getD, List.getElem?_append_left (by omega)]
theorem row_addFull {I : iT} {a : Nat} {l : List Int32} (h : rowIs I a l) (hr : l.length = LEN (a + 1)) (x : Int32) : mX4_add a I x = some (-1, I) := by
  have hL := LEN_le (a + 1)
  unfold mX4_add
  rw [h.1, if_neg (nI_nlt (by omega) (by omega))]
theorem row_find2 {I : iT} {a : Nat} {l : List Int32} (h : rowIs I a l) (v : Int32) : ∀ (t : List Int32) (j n : Nat), l.drop j = t → j ≤ l.length → l.length < j + n → mX4_find_2 a n I v (nI j) = some (lfindF v t j) := by
  have hl := row_len h
  intro t
  induction t with
  | nil =>
    intro j n hd hj hn
    obtain ⟨n, rfl⟩ : ∃ m, n = m + 1 := ⟨n - 1, by omega⟩
    have hz : l.length ≤ j := List.drop_eq_nil_iff.mp hd
    rw [mX4_find_2, h.1, if_pos (nI_le hz (by omega))]
    rfl
  | cons b t ih =>
    intro j n hd hj hn
    obtain ⟨h1, h2, h3⟩ : j < l.length ∧ l.getD j (-1) = b ∧ l.drop (j + 1) = t := by
      have hlt : j < l.length := by
        rcases Nat.lt_or_ge j l.length with q | q
        · exact q
        · rw [List.drop_eq_nil_of_le q] at hd; cases hd
      refine ⟨hlt, ?_, ?_⟩
      · rw [List.getD_eq_getElem?_getD, ← List.head?_drop, hd]; rfl
      · rw [← List.tail_drop, hd]; rfl
    obtain ⟨n, rfl⟩ : ∃ m, n = m + 1 := ⟨n - 1, by omega⟩
    rw [mX4_find_2, h.1, if_neg (nI_ge h1 (by omega)), if_pos (show inb (nI j) (LEN (a + 1)) from vp_in_nI (by have := h.2.1; omega) (by have := LEN_le (a + 1); omega)), nI_clamp (by omega), h.2.2 j h1, h2, lfindF]
    by_cases hb : b = v
    · rw [if_pos hb, if_pos hb]
    · rw [if_neg hb, if_neg hb, nI_1]
      exact ih (j + 1) n h3 (by omega) (by omega)
theorem row_find {I : iT} {a : Nat} {l : List Int32} (h : rowIs I a l) (v : Int32) : mX4_find a I v = some (lfind l v) := by
  have hl := row_len h
  have := row_find2 h v l 0 LF rfl (Nat.zero_le _) (by unfold LF; omega)
  rw [nI_0] at this
  exact this
/-- another Row stays -/
theorem rowIs.keep {I I' : iT} {a : Nat} {l : List Int32} (h : rowIs I a l) (h1 : I' a = I a) (h2 : I' (a + 1) = I (a + 1)) : rowIs I' a l := ⟨by rw [h1]; exact h.1, h.2.1, fun i hi => by rw [h2]; exact h.2.2 i hi⟩
