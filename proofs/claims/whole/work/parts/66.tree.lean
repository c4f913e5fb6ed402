/-! THE REFERENCE'S TREES OF TYPES beside the class's numbers (pure) -/
/-- a branch: its node, its NAME, its T's node and number, its T's parts -/
abbrev Br : Type := Nat × List Nat × Nat × Nat × Nat
def chain (B : iT) (J : jT) : Int32 → List Br → Prop
  | x, [] => x = -1
  | x, e :: l => x = nI e.1 ∧ e.1 < 2800 ∧ B 188 e.1 = 8 ∧ B 189 e.1 = nI e.2.2.1 ∧ B 190 e.1 = -1 ∧ J 192 e.1 = lN (rN e.2.1) ∧ chain B J (B 191 e.1) l
def psm : List Br → Nat
  | [] => 0
  | e :: l => e.2.2.2.2 + psm l
/-- node u of the reference is the class's T t, of p parts; all its nodes are in Q -/
def TR (k : Nat) (L : lT) (B : iT) (J : jT) (Q : Nat → Prop) : Nat → Nat → Nat → Nat → Prop
  | 0, _, _, _ => False
  | n + 1, u, t, p => u < 2800 ∧ Q u ∧ t < (L (k + 2)).length ∧ J 192 u = 0 ∧
    ((gI (L (k + 2)) t = 302 ∧ B 188 u = 1 ∧ B 189 u = -1 ∧ B 190 u = -1 ∧ gI (L (k + 4)) t = -1 ∧ gI (L (k + 6)) t = -1 ∧ p = 1) ∨
     (∃ kd w u1 t1 p1, ((kd = 33 ∧ w = 2) ∨ (kd = 63 ∧ w = 3)) ∧ gI (L (k + 2)) t = nI kd ∧ B 188 u = nI w ∧ B 189 u = nI u1 ∧ B 190 u = -1 ∧ gI (L (k + 4)) t = -1 ∧ gI (L (k + 6)) t = nI t1 ∧ p = 1 + p1 ∧ TR k L B J Q n u1 t1 p1) ∨
     (∃ kd w u1 t1 p1 u2 t2 p2, ((kd = 62 ∧ w = 4) ∨ (kd = 60 ∧ w = 5)) ∧ gI (L (k + 2)) t = nI kd ∧ B 188 u = nI w ∧ B 189 u = nI u1 ∧ B 190 u = nI u2 ∧ gI (L (k + 4)) t = nI t1 ∧ gI (L (k + 6)) t = nI t2 ∧ p = 1 + p1 + p2 ∧ TR k L B J Q n u1 t1 p1 ∧ TR k L B J Q n u2 t2 p2) ∨
     (∃ kd w f bl, ((kd = 43 ∧ w = 6) ∨ (kd = 38 ∧ w = 7)) ∧ gI (L (k + 2)) t = nI kd ∧ B 188 u = nI w ∧ B 190 u = -1 ∧ gI (L (k + 4)) t = nI f ∧ gI (L (k + 6)) t = nI bl.length ∧ 1 ≤ bl.length ∧ bl.length ≤ 6 ∧ f + bl.length ≤ (L (k + 10)).length ∧ chain B J (B 189 u) bl ∧ bl.Pairwise (fun a b => dlt a.2.1 b.2.1) ∧ p = 1 + psm bl ∧ ∀ i e, bl[i]? = some e → Q e.1 ∧ isN e.2.1 ∧ gI (L (k + 10)) (f + i) = nI (cN e.2.1) ∧ gI (L (k + 12)) (f + i) = nI e.2.2.2.1 ∧ TR k L B J Q n e.2.2.1 e.2.2.2.1 e.2.2.2.2))
theorem tr_u {k : Nat} {L : lT} {B : iT} {J : jT} {Q : Nat → Prop} {n u t p : Nat} (h : TR k L B J Q n u t p) : u < 2800 ∧ Q u ∧ t < (L (k + 2)).length := by
  cases n with
  | zero => exact h.elim
  | succ n => exact ⟨h.1, h.2.1, h.2.2.1⟩
theorem tr_p {k : Nat} {L : lT} {B : iT} {J : jT} {Q : Nat → Prop} {n u t p : Nat} (h : TR k L B J Q n u t p) : 1 ≤ p := by
  cases n with
  | zero => exact h.elim
  | succ n =>
    rcases h.2.2.2.2 with h | ⟨_, _, _, _, _, _, _, _, _, _, _, _, h, _⟩ | ⟨_, _, _, _, _, _, _, _, _, _, _, _, _, _, _, h, _⟩ | ⟨_, _, _, _, _, _, _, _, _, _, _, _, _, _, _, h, _⟩
    · have := h.2.2.2.2.2.2; omega
    · omega
    · omega
    · omega
theorem chain_to {B B' : iT} {J J' : jT} : ∀ (bl : List Br) (x : Int32), (∀ e ∈ bl, B' 188 e.1 = B 188 e.1 ∧ B' 189 e.1 = B 189 e.1 ∧ B' 190 e.1 = B 190 e.1 ∧ B' 191 e.1 = B 191 e.1 ∧ J' 192 e.1 = J 192 e.1) → chain B J x bl → chain B' J' x bl := by
  intro bl
  induction bl with
  | nil => intro x _ h; exact h
  | cons e l ih =>
    intro x ha h
    obtain ⟨a1, a2, a3, a4, a5⟩ := ha e (by simp)
    obtain ⟨h1, h2, h3, h4, h5, h6, h7⟩ := h
    exact ⟨h1, h2, by rw [a1]; exact h3, by rw [a2]; exact h4, by rw [a3]; exact h5, by rw [a5]; exact h6, by rw [a4]; exact ih _ (fun e' he => ha e' (by simp [he])) h7⟩
theorem tab_len {k : Nat} {L : lT} (h : tabL k L) : (L (k + 4)).length = (L (k + 2)).length ∧ (L (k + 6)).length = (L (k + 2)).length ∧ (L (k + 8)).length = (L (k + 2)).length ∧ (L (k + 12)).length = (L (k + 10)).length := h.1
def TE (k : Nat) (L L' : lT) : Prop := ∀ a, k + 2 ≤ a → a ≤ k + 12 → ∃ r, L' a = L a ++ r
theorem ext_g {k : Nat} {L L' : lT} (h : TE k L L') {a i : Nat} (h1 : k + 2 ≤ a) (h2 : a ≤ k + 12) (hi : i < (L a).length) : gI (L' a) i = gI (L a) i := by
  obtain ⟨r, e⟩ := h a h1 h2
  rw [e, gI_l _ hi]
theorem ext_l {k : Nat} {L L' : lT} (h : TE k L L') {a : Nat} (h1 : k + 2 ≤ a) (h2 : a ≤ k + 12) : (L a).length ≤ (L' a).length := by
  obtain ⟨r, e⟩ := h a h1 h2
  rw [e, List.length_append]; omega
/-- a tree stays while its nodes stay and the table grows -/
theorem tr_to {k : Nat} {L L' : lT} {B B' : iT} {J J' : jT} {Q Q' : Nat → Prop} (hT : tabL k L) (hE : TE k L L') (hA : ∀ v, Q v → (B' 188 v = B 188 v ∧ B' 189 v = B 189 v ∧ B' 190 v = B 190 v ∧ B' 191 v = B 191 v ∧ J' 192 v = J 192 v)) (hQ : ∀ v, Q v → Q' v) : ∀ (n m u t p : Nat), n ≤ m → TR k L B J Q n u t p → TR k L' B' J' Q' m u t p := by
  obtain ⟨l4, l6, l8, l12⟩ := tab_len hT
  have e2 := ext_l hE (a := k + 2) (by omega) (by omega)
  have e10 := ext_l hE (a := k + 10) (by omega) (by omega)
  intro n
  induction n with
  | zero => intro m u t p _ h; exact h.elim
  | succ n ih =>
    intro m u t p hm h
    obtain ⟨m, rfl⟩ : ∃ m', m = m' + 1 := ⟨m - 1, by omega⟩
    obtain ⟨h1, h2, h3, h4, h5⟩ := h
    obtain ⟨a1, a2, a3, a4, a5⟩ := hA u h2
    have g2 : gI (L' (k + 2)) t = gI (L (k + 2)) t := ext_g hE (by omega) (by omega) h3
    have g4 : gI (L' (k + 4)) t = gI (L (k + 4)) t := ext_g hE (by omega) (by omega) (by omega)
    have g6 : gI (L' (k + 6)) t = gI (L (k + 6)) t := ext_g hE (by omega) (by omega) (by omega)
    refine ⟨h1, hQ u h2, by omega, by rw [a5]; exact h4, ?_⟩
    rw [g2, g4, g6, a1, a2, a3]
    rcases h5 with h | ⟨kd, w, u1, t1, p1, c1, c2, c3, c4, c5, c6, c7, c8, c9⟩ | ⟨kd, w, u1, t1, p1, u2, t2, p2, c1, c2, c3, c4, c5, c6, c7, c8, c9, c10⟩ | ⟨kd, w, f, bl, c1, c2, c3, c4, c5, c6, c7, c8, c9, c10, c11, c12, c13⟩
    · exact Or.inl h
    · exact Or.inr (Or.inl ⟨kd, w, u1, t1, p1, c1, c2, c3, c4, c5, c6, c7, c8, ih m u1 t1 p1 (by omega) c9⟩)
    · exact Or.inr (Or.inr (Or.inl ⟨kd, w, u1, t1, p1, u2, t2, p2, c1, c2, c3, c4, c5, c6, c7, c8, ih m u1 t1 p1 (by omega) c9, ih m u2 t2 p2 (by omega) c10⟩))
    · refine Or.inr (Or.inr (Or.inr ⟨kd, w, f, bl, c1, c2, c3, c4, c5, c6, c7, c8, by omega, ?_, c11, c12, fun i e he => ?_⟩))
      · refine chain_to bl _ (fun e he => ?_) c10
        obtain ⟨i, hi⟩ := List.getElem?_of_mem he
        exact hA e.1 (c13 i e hi).1
      · obtain ⟨d1, d2, d3, d4, d5⟩ := c13 i e he
        have hi : i < bl.length := (List.getElem?_eq_some_iff.mp he).1
        exact ⟨hQ _ d1, d2, by rw [ext_g hE (by omega) (by omega) (by omega)]; exact d3, by rw [ext_g hE (by omega) (by omega) (by omega)]; exact d4, ih m _ _ _ (by omega) d5⟩
theorem psm_le : ∀ (bl : List Br) (e : Br), e ∈ bl → e.2.2.2.2 ≤ psm bl := by
  intro bl
  induction bl with
  | nil => intro e h; cases h
  | cons a l ih =>
    intro e h
    rcases List.mem_cons.mp h with q | q
    · subst q; show e.2.2.2.2 ≤ e.2.2.2.2 + psm l; omega
    · have := ih e q; show e.2.2.2.2 ≤ a.2.2.2.2 + psm l; omega
/-- the fuel of a tree may be its parts -/
theorem tr_fuel {k : Nat} {L : lT} {B : iT} {J : jT} {Q : Nat → Prop} : ∀ (n u t p : Nat), TR k L B J Q n u t p → TR k L B J Q p u t p := by
  intro n
  induction n with
  | zero => intro u t p h; exact h.elim
  | succ n ih =>
    intro u t p h
    have hp := tr_p h
    obtain ⟨p', rfl⟩ : ∃ m, p = m + 1 := ⟨p - 1, by omega⟩
    have up : ∀ (x m u t p : Nat), x ≤ m → TR k L B J Q x u t p → TR k L B J Q m u t p := by
      intro x
      induction x with
      | zero => intro m u t p _ h; exact h.elim
      | succ x ihx =>
        intro m u t p hm h
        obtain ⟨m, rfl⟩ : ∃ m', m = m' + 1 := ⟨m - 1, by omega⟩
        obtain ⟨h1, h2, h3, h4, h5⟩ := h
        refine ⟨h1, h2, h3, h4, ?_⟩
        rcases h5 with h | ⟨kd, w, u1, t1, p1, c1, c2, c3, c4, c5, c6, c7, c8, c9⟩ | ⟨kd, w, u1, t1, p1, u2, t2, p2, c1, c2, c3, c4, c5, c6, c7, c8, c9, c10⟩ | ⟨kd, w, f, bl, c1, c2, c3, c4, c5, c6, c7, c8, c9, c10, c11, c12, c13⟩
        · exact Or.inl h
        · exact Or.inr (Or.inl ⟨kd, w, u1, t1, p1, c1, c2, c3, c4, c5, c6, c7, c8, ihx m u1 t1 p1 (by omega) c9⟩)
        · exact Or.inr (Or.inr (Or.inl ⟨kd, w, u1, t1, p1, u2, t2, p2, c1, c2, c3, c4, c5, c6, c7, c8, ihx m u1 t1 p1 (by omega) c9, ihx m u2 t2 p2 (by omega) c10⟩))
        · exact Or.inr (Or.inr (Or.inr ⟨kd, w, f, bl, c1, c2, c3, c4, c5, c6, c7, c8, c9, c10, c11, c12, fun i e he => ⟨(c13 i e he).1, (c13 i e he).2.1, (c13 i e he).2.2.1, (c13 i e he).2.2.2.1, ihx m _ _ _ (by omega) (c13 i e he).2.2.2.2⟩⟩))
    obtain ⟨h1, h2, h3, h4, h5⟩ := h
    refine ⟨h1, h2, h3, h4, ?_⟩
    rcases h5 with h | ⟨kd, w, u1, t1, p1, c1, c2, c3, c4, c5, c6, c7, c8, c9⟩ | ⟨kd, w, u1, t1, p1, u2, t2, p2, c1, c2, c3, c4, c5, c6, c7, c8, c9, c10⟩ | ⟨kd, w, f, bl, c1, c2, c3, c4, c5, c6, c7, c8, c9, c10, c11, c12, c13⟩
    · exact Or.inl h
    · exact Or.inr (Or.inl ⟨kd, w, u1, t1, p1, c1, c2, c3, c4, c5, c6, c7, c8, up p1 p' u1 t1 p1 (by omega) (ih u1 t1 p1 c9)⟩)
    · exact Or.inr (Or.inr (Or.inl ⟨kd, w, u1, t1, p1, u2, t2, p2, c1, c2, c3, c4, c5, c6, c7, c8, up p1 p' u1 t1 p1 (by omega) (ih u1 t1 p1 c9), up p2 p' u2 t2 p2 (by omega) (ih u2 t2 p2 c10)⟩))
    · refine Or.inr (Or.inr (Or.inr ⟨kd, w, f, bl, c1, c2, c3, c4, c5, c6, c7, c8, c9, c10, c11, c12, fun i e he => ⟨(c13 i e he).1, (c13 i e he).2.1, (c13 i e he).2.2.1, (c13 i e he).2.2.2.1, ?_⟩⟩))
      have := psm_le bl e (List.mem_of_getElem? he)
      exact up _ p' _ _ _ (by omega) (ih _ _ _ (c13 i e he).2.2.2.2)
/-- the class's parts are the tree's -/
theorem tr_parts {k : Nat} {L : lT} {B : iT} {J : jT} {Q : Nat → Prop} (hT : tabL k L) (hK : (L (k + 2)).length ≤ 1000) (hN5 : (L (k + 10)).length ≤ 500) : ∀ (n u t p : Nat), TR k L B J Q n u t p → gI (L (k + 8)) t = nI p := by
  obtain ⟨_, tb, tc, _⟩ := hT
  have m1 : ∀ {x : Nat}, x < (L (k + 2)).length → pz (L (k + 8)) (nI x) = gI (L (k + 8)) x := by
    intro x hx
    unfold pz
    have : ¬ nI x = -1 := by
      intro q
      have e1 : (nI x).toInt = x := nI_toInt (by omega)
      rw [q] at e1
      have e2 : (-1 : Int32).toInt = -1 := by decide
      omega
    rw [if_neg this, lat_g (by omega)]
  have m0 : pz (L (k + 8)) (-1) = 0 := if_pos rfl
  intro n
  induction n with
  | zero => intro u t p h; exact h.elim
  | succ n ih =>
    intro u t p h
    obtain ⟨h1, h2, h3, h4, h5⟩ := h
    rcases h5 with h | ⟨kd, w, u1, t1, p1, c1, c2, c3, c4, c5, c6, c7, c8, c9⟩ | ⟨kd, w, u1, t1, p1, u2, t2, p2, c1, c2, c3, c4, c5, c6, c7, c8, c9, c10⟩ | ⟨kd, w, f, bl, c1, c2, c3, c4, c5, c6, c7, c8, c9, c10, c11, c12, c13⟩
    · obtain ⟨b1, b2, b3⟩ := tb t h3 (by rw [h.1]; unfold ch; decide)
      rw [b3, h.2.2.2.2.1, h.2.2.2.2.2.1, m0, h.2.2.2.2.2.2]; decide
    · obtain ⟨b1, b2, b3⟩ := tb t h3 (by rw [c2]; unfold ch; rcases c1 with ⟨q, _⟩ | ⟨q, _⟩ <;> subst q <;> decide)
      rw [b3, c6, c7, m0, m1 (tr_u c9).2.2, ih _ _ _ c9, c8, ← nI_add]; rw [Int32.add_zero]; rfl
    · obtain ⟨b1, b2, b3⟩ := tb t h3 (by rw [c2]; unfold ch; rcases c1 with ⟨q, _⟩ | ⟨q, _⟩ <;> subst q <;> decide)
      rw [b3, c6, c7, m1 (tr_u c9).2.2, m1 (tr_u c10).2.2, ih _ _ _ c9, ih _ _ _ c10, c8, ← nI_add, ← nI_add]; rfl
    · obtain ⟨f', m', b1, b2, b3, b4⟩ := tc t h3 (by rw [c2]; unfold ch; rcases c1 with ⟨q, _⟩ | ⟨q, _⟩ <;> subst q <;> decide)
      by_cases hff : f < 2 ^ 31 ∧ f' < 2 ^ 31 ∧ m' < 2 ^ 31
      · have ef : f' = f := (nI_eq hff.2.1 hff.1).mp (b1.symm.trans c5)
        have em : m' = bl.length := (nI_eq hff.2.2 (by omega)).mp (b2.symm.trans c6)
        subst ef
        subst em
        have hs : ∀ (m : Nat), m ≤ bl.length → psum (L (k + 8)) (L (k + 12)) f' m = nI (psm (bl.take m)) := by
          intro m
          induction m with
          | zero => intro _; rfl
          | succ m ihm =>
            intro hm
            obtain ⟨e, he⟩ : ∃ e, bl[m]? = some e := ⟨bl[m], List.getElem?_eq_getElem (by omega)⟩
            obtain ⟨d1, d2, d3, d4, d5⟩ := c13 m e he
            have etk : bl.take (m + 1) = bl.take m ++ [e] := by
              rw [List.take_succ, he]; rfl
            have eps : ∀ (a : List Br), psm (a ++ [e]) = psm a + e.2.2.2.2 := by
              intro a
              induction a with
              | nil => show e.2.2.2.2 + 0 = 0 + e.2.2.2.2; omega
              | cons x a iha => show x.2.2.2.2 + psm (a ++ [e]) = x.2.2.2.2 + psm a + e.2.2.2.2; rw [iha]; omega
            have ht := (tr_u d5).2.2
            rw [psum, ihm (by omega), d4, lat_g (by omega), ih _ _ _ d5, etk, eps, nI_add]
        have := hs bl.length (Nat.le_refl _)
        rw [List.take_of_length_le (Nat.le_refl _)] at this
        rw [b4, this, c12, ← nI_add]; rfl
      · exfalso
        have hN := hff
        apply hN
        have q2 : f' + m' ≤ (L (k + 10)).length := b3
        have q3 : f + bl.length ≤ (L (k + 10)).length := c9
        exact ⟨by omega, by omega, by omega⟩
