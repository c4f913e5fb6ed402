/-! Es ARE WORKED OUT, in both (pure) -/
theorem opk_both {kd w : Nat} (h : opk kd w) (a b : Int32) : ∃ v, mX12_both (nI w) a b = some v ∧ (if nI kd = 42 then some (a * b) else if nI kd = 43 then some (a + b) else if nI kd = 45 then some (a - b) else if nI kd = 60 then if b ≤ a then some (0 : Int32) else some 1 else if a = b then some 1 else some 0) = some v := by
  unfold mX12_both
  rcases h with ⟨rfl, rfl⟩ | ⟨rfl, rfl⟩ | ⟨rfl, rfl⟩ | ⟨rfl, rfl⟩ | ⟨rfl, rfl⟩
  · exact ⟨a + b, rfl, rfl⟩
  · exact ⟨a - b, rfl, rfl⟩
  · exact ⟨a * b, rfl, rfl⟩
  · by_cases q : b ≤ a
    · exact ⟨0, if_pos q, if_pos q⟩
    · exact ⟨1, if_neg q, if_neg q⟩
  · by_cases q : a = b
    · exact ⟨1, if_pos q, if_pos q⟩
    · exact ⟨0, if_neg q, if_neg q⟩
/-- what the class works Es out with; the slots of its NUMBERS hold s -/
def CA (k p : Nat) (L : lT) (N : Nat → Prop) (s : Nat → Int32) (I : iT) (V : List Int32) : Prop := (∀ a, rkA k a → rowIs I a (L a)) ∧ (rowIs I (k + 27) V ∧ V.length = (L (k + 19)).length) ∧ ∃ S, rowIs I 176 S ∧ ∀ j, N j → gI S (p * 85 + j) = s j
/-- what the reference works Es out with -/
def VA (p n : Nat) (B0 : iT) (N : Nat → Prop) (s : Nat → Int32) (B : iT) : Prop := (∀ q, 188 ≤ q → q ≤ 205 → B q = B0 q) ∧ ∀ j, N j → B 218 (128 * p + sg n j) = s j
section
variable {k p n : Nat} {L : lT} {N : Nat → Prop} {s : Nat → Int32} {I B B0 : iT} {V : List Int32}
theorem va_keep {B' : iT} (h : VA p n B0 N s B) (hf : ∀ q i, ¬ (q = 186 ∧ i = 76) → q ≠ 229 → B' q i = B q i) : VA p n B0 N s B' := ⟨fun q w1 w2 => by rw [← h.1 q w1 w2]; exact funext fun i => hf q i (by omega) (by omega), fun j hj => by rw [hf _ _ (by omega) (by omega)]; exact h.2 j hj⟩
/-- one node in the class -/
theorem ca_node (hk : k = 12 ∨ k = 73) (h : CA k p L N s I V) {i : Nat} (hi : i < (L (k + 19)).length) (h1000 : (L (k + 19)).length ≤ 1000) {v : Int32} (hv : mX8_valueOf (k + 18) 176 I (nI i) (nI (p * 85)) = some v) {m r1 : Nat} (hr : i ≤ r1) (hr1 : r1 < 2000) :
    ∃ I', mX8_evaluate_10 (k + 18) 176 (m + 1) I (nI r1) (nI (p * 85)) (nI i) = mX8_evaluate_10 (k + 18) 176 m I' (nI r1) (nI (p * 85)) (nI (i + 1)) ∧ CA k p L N s I' (V.set i v) ∧ fr1 (k + 27) I I' := by
  obtain ⟨c1, ⟨c2, c3⟩, S, c4, c5⟩ := h
  obtain ⟨I', e, u⟩ := row_put c2 (nI i) v
  rw [lput_nI _ (by omega)] at u
  refine ⟨I', ?_, ⟨fun a ha => (c1 a ha).keep (u.2 _ ?_ ?_) (u.2 _ ?_ ?_), ⟨u.1, by rw [List.length_set]; exact c3⟩, S, c4.keep (u.2 _ (by omega) (by omega)) (u.2 _ (by omega) (by omega)), c5⟩, u.2⟩
  · rw [mX8_evaluate_10, if_neg (show ¬ nI r1 < nI i from nI_nlt hr (by omega)), hv, sb]
    show ((mX4_put (k + 27) I (nI i) v).bind _) = _
    rw [e, sb, nI_1]
  all_goals (unfold rkA at ha; omega)
end
