/-! TOKEN LISTS that are well made, and both cursors side by side (pure) -/
def tl (k : Nat) : Nat := if k = 260 then 0 else if k < 300 then 1 else (wl.getD (k - 300) []).length
def wft (t : Tok) : Prop := t.1 ≤ 316 ∧ (t.1 = 256 → isN t.2.1) ∧ (t.1 = 257 → t.2.1.headD 0 < 10000)
def tkl : Tok → List Tok → Prop
  | t, [] => t.1 = 260 ∧ t.2.2 ≤ 1000
  | t, u :: r => t.1 ≠ 260 ∧ wft t ∧ t.2.2 + tl t.1 ≤ u.2.2 ∧ tkl u r
theorem tkl_end : ∀ (r : List Tok) (t : Tok), tkl t r → t.2.2 ≤ 1000 := by
  intro r
  induction r with
  | nil => intro t h; exact h.2
  | cons u r ih => intro t h; have := ih u h.2.2.2; have := h.2.2.1; omega
theorem tkl_wf {t : Tok} {r : List Tok} (h : tkl t r) : wft t := by
  cases r with
  | nil =>
    have := h.1
    exact ⟨by omega, fun q => by omega, fun q => by omega⟩
  | cons u r => exact h.2.1
theorem tkl_more {t : Tok} {r : List Tok} (h : tkl t r) (hn : t.1 ≠ 260) : ∃ u r', r = u :: r' ∧ tkl u r' ∧ t.2.2 + tl t.1 ≤ u.2.2 := by
  cases r with
  | nil => exact (hn h.1).elim
  | cons u r => exact ⟨u, r, rfl, h.2.2.2, h.2.2.1⟩
theorem tl_wk {l : List Nat} (h : 1 ≤ l.length) : tl (wk l) ≤ l.length := by
  have := wk_cases l
  unfold tl
  by_cases h6 : wk l = 256
  · rw [if_neg (by omega), if_pos (by omega)]; exact h
  · rw [if_neg (by omega), if_neg (by omega), wk_len l h6]; exact Nat.le_refl _
theorem tl_le1 {k : Nat} (h : k < 300) : tl k ≤ 1 := by
  unfold tl
  by_cases h2 : k = 260
  · rw [if_pos h2]; omega
  · rw [if_neg h2, if_pos h]; exact Nat.le_refl _
theorem num10_lt : ∀ (l : List Nat) (a : Nat), (∀ c ∈ l, c ≤ 57) → l.foldl (fun a c => a * 10 + (c - 48)) a < (a + 1) * 10 ^ l.length := by
  intro l
  induction l with
  | nil => intro a _; simp
  | cons c l ih =>
    intro a h
    have h1 := ih (a * 10 + (c - 48)) (fun x hx => h x (by simp [hx]))
    have h2 := h c (by simp)
    have h3 : (a * 10 + (c - 48) + 1) * 10 ^ l.length ≤ ((a + 1) * 10) * 10 ^ l.length := Nat.mul_le_mul_right _ (by omega)
    rw [List.foldl_cons, List.length_cons, Nat.pow_succ, Nat.mul_comm (10 ^ l.length) 10, ← Nat.mul_assoc]
    omega
theorem tw_all (f : Nat → Bool) : ∀ l : List Nat, ∀ c ∈ l.takeWhile f, f c = true := by
  intro l
  induction l with
  | nil => intro c h; cases h
  | cons d l ih =>
    intro c h
    by_cases hd : f d = true
    · rw [List.takeWhile_cons_of_pos hd] at h
      rcases List.mem_cons.mp h with e | e
      · rw [e]; exact hd
      · exact ih c e
    · rw [List.takeWhile_cons_of_neg hd] at h; cases h
theorem lexG_ne : ∀ (n : Nat) (s : List Nat) (p : Nat), lexG n s p ≠ [] := by
  intro n
  induction n with
  | zero => intro s p h; cases h
  | succ n ih =>
    intro s p
    cases s with
    | nil => intro h; cases h
    | cons c s =>
      rw [lexG]
      by_cases q1 : c = 32 ∨ c = 10
      · rw [if_pos q1]; exact ih _ _
      rw [if_neg q1]
      by_cases q2 : smb c = true
      · rw [if_pos q2]; intro h; cases h
      rw [if_neg q2]
      by_cases q3 : dgb c = true
      · rw [if_pos q3]; intro h; cases h
      rw [if_neg q3]
      by_cases q4 : c = 61 ∧ s.head? = some 61
      · rw [if_pos q4]; intro h; cases h
      rw [if_neg q4]; intro h; cases h
theorem lexG_wf {bs : List Nat} (hl : bs.length ≤ 1000) : ∀ (n : Nat) (s : List Nat) (p : Nat), s.length < n → p + s.length ≤ 1000 → ∀ t r, lexG n s p = t :: r → tkl t r ∧ p ≤ t.2.2 := by
  intro n
  induction n with
  | zero => intro s p h; omega
  | succ n ih =>
    intro s p hn hp t r hL
    -- a token (k, w, p) with the rest behind q bytes
    have go : ∀ (k q : Nat) (w : List Nat) (s' : List Nat), s'.length + q ≤ s.length → 1 ≤ q → wft (k, w, p) → k ≠ 260 → tl k ≤ q → (k, w, p) :: lexG n s' (p + q) = t :: r → tkl t r ∧ p ≤ t.2.2 := by
      intro k q w s' h1 h2 h3 h4 h5 h6
      cases h6
      have hne : ∃ u r', lexG n s' (p + q) = u :: r' := by
        cases hq : lexG n s' (p + q) with
        | nil => exact (lexG_ne _ _ _ hq).elim
        | cons u r' => exact ⟨u, r', rfl⟩
      obtain ⟨u, r', hu⟩ := hne
      obtain ⟨i1, i2⟩ := ih s' (p + q) (by omega) (by omega) u r' hu
      rw [hu]
      refine ⟨⟨h4, h3, ?_, i1⟩, Nat.le_refl _⟩
      show p + tl k ≤ u.2.2
      omega
    cases s with
    | nil =>
      rw [lexG] at hL
      cases hL
      have : p + 0 ≤ 1000 := hp
      exact ⟨⟨rfl, by show p ≤ 1000; omega⟩, Nat.le_refl _⟩
    | cons c s =>
      have hcl : (c :: s).length = s.length + 1 := rfl
      rw [lexG] at hL
      by_cases q1 : c = 32 ∨ c = 10
      · rw [if_pos q1] at hL
        obtain ⟨i1, i2⟩ := ih _ _ (by rw [List.length_drop]; omega) (by rw [List.length_drop]; omega) t r hL
        exact ⟨i1, by omega⟩
      · rw [if_neg q1] at hL
        by_cases q2 : smb c = true
        · rw [if_pos q2] at hL
          have t1 : 1 ≤ ((c :: s).takeWhile smb).length := by rw [List.takeWhile_cons_of_pos q2]; simp
          have tn := tw_nam (c :: s)
          have tle := tw_len smb (c :: s)
          generalize (c :: s).takeWhile smb = w at *
          have dl := dn_len w
          have wc := wk_cases (dn w)
          by_cases h6 : w.length ≤ 6
          · rw [if_pos h6] at hL
            exact go (wk (dn w)) w.length (dn w) _ (by rw [List.length_drop]; omega) t1 ⟨by show wk (dn w) ≤ 316; omega, fun _ => ⟨tn, by show 1 ≤ (dn w).length; omega, by show (dn w).length ≤ 6; omega⟩, fun q => by have q' : wk (dn w) = 257 := q; omega⟩ (by omega) (by have := tl_wk (l := dn w) (by omega); omega) hL
          · rw [if_neg h6] at hL
            exact go 259 w.length (dn w) _ (by rw [List.length_drop]; omega) t1 ⟨by show (259 : Nat) ≤ 316; decide, fun q => by simp at q, fun q => by simp at q⟩ (by decide) (by have := tl_le1 (k := 259) (by decide); omega) hL
        · rw [if_neg q2] at hL
          by_cases q3 : dgb c = true
          · rw [if_pos q3] at hL
            have t1 : 1 ≤ ((c :: s).takeWhile dgb).length := by rw [List.takeWhile_cons_of_pos q3]; simp
            have tle := tw_len dgb (c :: s)
            have ta := tw_all dgb (c :: s)
            generalize (c :: s).takeWhile dgb = w at *
            by_cases h4 : w.length ≤ 4 ∧ ltb (((c :: s).drop w.length).headD 0) = false
            · rw [if_pos h4] at hL
              refine go 257 w.length _ _ (by rw [List.length_drop]; omega) t1 ⟨by show (257 : Nat) ≤ 316; decide, fun q => by simp at q, fun _ => ?_⟩ (by decide) (by have := tl_le1 (k := 257) (by decide); omega) hL
              show num10 w < 10000
              have := num10_lt w 0 (fun c hc => (dgb_dig (ta c hc)).2)
              have h2 : 10 ^ w.length ≤ 10 ^ 4 := Nat.pow_le_pow_right (by omega) h4.1
              unfold num10
              omega
            · rw [if_neg h4] at hL
              exact go 259 w.length _ _ (by rw [List.length_drop]; omega) t1 ⟨by show (259 : Nat) ≤ 316; decide, fun q => by simp at q, fun q => by simp at q⟩ (by decide) (by have := tl_le1 (k := 259) (by decide); omega) hL
          · rw [if_neg q3] at hL
            by_cases q4 : c = 61 ∧ s.head? = some 61
            · rw [if_pos q4] at hL
              have h2 : 2 ≤ (c :: s).length := by
                cases s with
                | nil => have := q4.2; cases this
                | cons d s => simp
              exact go 258 2 [] _ (by rw [List.length_drop]; omega) (by omega) ⟨by show (258 : Nat) ≤ 316; decide, fun q => by simp at q, fun q => by simp at q⟩ (by decide) (by have := tl_le1 (k := 258) (by decide); omega) hL
            · rw [if_neg q4] at hL
              by_cases q5 : c ∈ sgn
              · rw [if_pos q5] at hL
                have hs : c ≤ 125 := (by decide : ∀ x ∈ sgn, x ≤ 125) c q5
                exact go c 1 [] _ (by rw [List.length_drop]; omega) (by omega) ⟨by show c ≤ 316; omega, fun q => by have q' : c = 256 := q; omega, fun q => by have q' : c = 257 := q; omega⟩ (by omega) (by have := tl_le1 (k := c) (by omega); omega) hL
              · rw [if_neg q5] at hL
                exact go 259 1 [] _ (by rw [List.length_drop]; omega) (by omega) ⟨by show (259 : Nat) ≤ 316; decide, fun q => by simp at q, fun q => by simp at q⟩ (by decide) (by have := tl_le1 (k := 259) (by decide); omega) hL
/-- both stand at t, r is behind; no fault -/
def CR (I B : iT) (J : jT) (bs : List Nat) (t : Tok) (r : List Tok) : Prop := CC I t r ∧ RC B J bs t r ∧ tkl t r ∧ B 186 7 = 0 ∧ I 6 10 = -1 ∧ (∀ c ∈ bs, c < 256) ∧ bs.length ≤ 1000
