/-! THE ALTERNATIVES OF A case SO FAR (pure) -/
def PG0 (k : Nat) (L L' : lT) (P P' md md' : Nat) : Prop := SE k L L' ∧ (∀ a, ¬ (k + 19 ≤ a ∧ a ≤ k + 59) → L' a = L a) ∧ ((∀ a, k + 29 ≤ a → a ≤ k + 46 → L' a = L a) ∧ EXB k L L') ∧ (∀ j, j < (L (k + 47)).length → (gI (L' (k + 47)) j = gI (L (k + 47)) j ∧ gI (L' (k + 49)) j = gI (L (k + 49)) j ∧ gI (L' (k + 51)) j = gI (L (k + 51)) j ∧ gI (L' (k + 53)) j = gI (L (k + 53)) j)) ∧ (∀ j, j < (L (k + 55)).length → (gI (L' (k + 55)) j = gI (L (k + 55)) j ∧ gI (L' (k + 57)) j = gI (L (k + 57)) j)) ∧ (∃ r, L' (k + 59) = L (k + 59) ++ r) ∧ ((L (k + 47)).length ≤ (L' (k + 47)).length ∧ (L (k + 55)).length ≤ (L' (k + 55)).length ∧ md ≤ md' ∧ P < P') ∧ ((L' (k + 19)).length + P ≤ (L (k + 19)).length + P' ∧ md' + P ≤ md + P' ∧ 4 * (L' (k + 47)).length + P ≤ 4 * (L (k + 47)).length + P' ∧ 2 * (L' (k + 59)).length + P ≤ 2 * (L (k + 59)).length + P')
section
variable {k h M n : Nat} {D : List Df} {F : fT} {I B : iT} {J : jT} {L : lT} {bs : List Nat} {t : Tok} {r : List Tok} {P md nest wd b z : Nat} {S : List Sl} {a6 a8 a0 c6 c8 c0 : List Int32}
theorem pg0_pgr {L' : lT} {P' md' : Nat} (H : PG0 k L L' P P' md md') (h55 : 3 * (L' (k + 55)).length + P ≤ 3 * (L (k + 55)).length + P') : PGr k L L' P P' md md' := by
  obtain ⟨a1, a2, a3, a4, a5, a6, ⟨a7, a8, a9, a10⟩, a11, a12, a13, a14⟩ := H
  exact ⟨a1, a2, a3, a4, a5, a6, a7, a8, a9, a10, a11, a12, a13, a14, h55⟩
/-- one more alternative: a start is set, then its P -/
theorem pg0_alt {L1 L2 : lT} {P1 P2 md1 md2 md3 j : Nat} {v : Int32} (a : PG0 k L L1 P P1 md md1) (c : PGr k (upL L1 (k + 57) ((L1 (k + 57)).set j v)) L2 (P1 + 2) P2 md3 md2) (hj : (L (k + 55)).length ≤ j) (hm : md3 = md1 + 1) : PG0 k L L2 P P2 md md2 := by
  obtain ⟨a1, a2, ⟨a3, a3x⟩, a4, a5, ⟨ra, a6⟩, ⟨a7, a8, a9, a10⟩, a11, a12, a13, a14⟩ := a
  obtain ⟨c1, c2, ⟨c3, c3x⟩, c4, c5, ⟨rc, c6⟩, c7, c8, c9, c10, c11, c12, c13, c14, c15⟩ := c
  have hn : ∀ x, x ≠ k + 57 → (upL L1 (k + 57) ((L1 (k + 57)).set j v)) x = L1 x := fun x w => upL_n _ _ w
  rw [hn (k + 47) (by omega)] at c4 c7 c13
  rw [hn (k + 55) (by omega)] at c5 c8
  rw [hn (k + 59) (by omega)] at c6 c14
  rw [hn (k + 19) (by omega)] at c11
  refine ⟨SE.trans a1 (fun x w1 w2 => by have := c1 x w1 w2; rw [hn x (by omega)] at this; exact this), fun x w => by rw [c2 x w, hn x (by omega)]; exact a2 x w, ⟨fun x w1 w2 => by rw [c3 x w1 w2, hn x (by omega)]; exact a3 x w1 w2, fun hx => c3x (by rw [hn (k + 47) (by omega), hn (k + 53) (by omega)]; exact a3x hx)⟩, fun i hi => ?_, fun i hi => ?_, ⟨ra ++ rc, by rw [c6, a6, List.append_assoc]⟩, ⟨by omega, by omega, by omega, by omega⟩, by omega, by omega, by omega, by omega⟩
  · obtain ⟨p1, p2, p3, p4⟩ := a4 i hi
    obtain ⟨q1, q2, q3, q4⟩ := c4 i (by omega)
    rw [hn _ (by omega)] at q2 q3 q4
    exact ⟨q1.trans p1, q2.trans p2, q3.trans p3, q4.trans p4⟩
  · obtain ⟨p1, p2⟩ := a5 i hi
    obtain ⟨q1, q2⟩ := c5 i (by omega)
    rw [upL_s, gI_sn (by omega)] at q2
    exact ⟨q1.trans p1, q2.trans p2⟩
theorem alt_snoc {B2 : iT} {J2 : jT} {Q Q2 : Nat → Prop} {et eN : Alt} (hQ : ∀ v, Q v → Q2 v ∧ B2 189 v = B 189 v ∧ J2 192 v = J 192 v ∧ (v ≠ et.1 → B2 191 v = B 191 v)) (hl : B2 191 et.1 = nI eN.1) (hN : eN.1 < 2800 ∧ Q2 eN.1 ∧ J2 192 eN.1 = lN (rN eN.2.2.1) ∧ B2 189 eN.1 = nI eN.2.2.2.2.1 ∧ B2 191 eN.1 = -1) : ∀ (bl : List Alt) (x : Int32), altR B J Q x bl → bl.getLast? = some et → (bl.map (fun e => e.1)).Nodup → altR B2 J2 Q2 x (bl ++ [eN]) := by
  intro bl
  induction bl with
  | nil => intro x h1 h2 h3; cases h2
  | cons e l ih =>
    intro x h1 h2 h3
    obtain ⟨y1, y2, y3, y4, y5, y6⟩ := h1
    obtain ⟨q1, q2, q3, q4⟩ := hQ e.1 y3
    refine ⟨y1, y2, q1, by rw [q3]; exact y4, by rw [q2]; exact y5, ?_⟩
    cases l with
    | nil =>
      have : e = et := Option.some.inj h2
      subst this
      exact ⟨hl, hN.1, hN.2.1, hN.2.2.1, hN.2.2.2.1, hN.2.2.2.2⟩
    | cons e2 l2 =>
      have h2' : (e2 :: l2).getLast? = some et := by
        rw [List.getLast?_cons_cons] at h2
        exact h2
      have hm : et ∈ e2 :: l2 := List.mem_of_getLast? h2'
      have hne : e.1 ≠ et.1 := by
        intro z
        rw [List.map_cons, List.nodup_cons] at h3
        exact h3.1 (z ▸ List.mem_map_of_mem hm)
      rw [q4 hne]
      rw [List.map_cons, List.nodup_cons] at h3
      exact ih _ y6 h2' h3.2
theorem alt_Q {Q : Nat → Prop} : ∀ (bl : List Alt) (x : Int32), altR B J Q x bl → ∀ e ∈ bl, Q e.1 := by
  intro bl
  induction bl with
  | nil => intro x _ e he; cases he
  | cons a l ih =>
    intro x h e he
    obtain ⟨y1, y2, y3, y4, y5, y6⟩ := h
    rcases List.mem_cons.mp he with rfl | he
    · exact y3
    · exact ih _ y6 e he
theorem alt_same {B' : iT} {J' : jT} {Q Q' : Nat → Prop} (hQ : ∀ v, Q v → Q' v ∧ B' 189 v = B 189 v ∧ B' 191 v = B 191 v ∧ J' 192 v = J 192 v) : ∀ (bl : List Alt) (x : Int32), altR B J Q x bl → altR B' J' Q' x bl := by
  intro bl
  induction bl with
  | nil => intro x h; exact h
  | cons a l ih =>
    intro x h
    obtain ⟨y1, y2, y3, y4, y5, y6⟩ := h
    obtain ⟨q1, q2, q3, q4⟩ := hQ a.1 y3
    refine ⟨y1, y2, q1, by rw [q4]; exact y4, by rw [q2]; exact y5, ?_⟩
    rw [q3]
    exact ih _ y6
theorem cho_to {L' : lT} {B' : iT} {J' : jT} {Q : Nat → Prop} {u t f : Nat} {bl : List Br} (hT : tabL k L) (hL : ∀ a, k + 2 ≤ a → a ≤ k + 12 → L' a = L a) (hu : Q u) (hA : ∀ v, Q v → (B' 188 v = B 188 v ∧ B' 189 v = B 189 v ∧ B' 190 v = B 190 v ∧ B' 191 v = B 191 v ∧ J' 192 v = J 192 v)) (H : CHO k L B J Q u t f bl) : CHO k L' B' J' Q u t f bl := by
  obtain ⟨a1, a2, a3, a4, a5, a6, a7, a8, a9, a10⟩ := H
  refine ⟨a1, by rw [hL _ (by omega) (by omega)]; exact a2, by rw [hL _ (by omega) (by omega)]; exact a3, by rw [hL _ (by omega) (by omega)]; exact a4, a5, a6, by rw [hL _ (by omega) (by omega)]; exact a7, ?_, a9, fun i e he => ?_⟩
  · rw [(hA u hu).2.1]
    exact chain_to bl _ (fun e he => by
      obtain ⟨i, hi⟩ := List.getElem?_of_mem he
      exact hA e.1 (a10 i e hi).1) a8
  · obtain ⟨y1, y2, y3, y4, y5, y6⟩ := a10 i e he
    exact ⟨y1, y2, by rw [hL _ (by omega) (by omega)]; exact y3, by rw [hL _ (by omega) (by omega)]; exact y4, y5, tr_to hT (TE_eq hL) hA (fun v hv => hv) _ _ _ _ _ (Nat.le_refl _) y6⟩
theorem pk_alt {L2 : lT} {B2 : iT} {J2 : jT} {P1 P2 md1 md2 j : Nat} {v : Int32} {Q Rn Rc : Nat → Prop} (c : PGr k (upL L (k + 57) ((L (k + 57)).set j v)) L2 P1 P2 md1 md2) (hT : tabL k L) (hS : sumL k L) (hA : ∀ v, Q v → (B2 188 v = B 188 v ∧ B2 189 v = B 189 v ∧ B2 190 v = B 190 v ∧ B2 191 v = B 191 v ∧ J2 192 v = J 192 v)) (hRn : ∀ x, Rn x → x < (L (k + 47)).length) (hRc : ∀ x, Rc x → x < (L (k + 55)).length ∧ x ≠ j) : PK k L L2 B B2 J J2 Q Rn Rc := by
  obtain ⟨c1, c2, c3, c4, c5, ⟨rc, c6⟩, c7, c8, c9, c10, c11, c12, c13, c14, c15⟩ := c
  have hn : ∀ x, x ≠ k + 57 → (upL L (k + 57) ((L (k + 57)).set j v)) x = L x := fun x w => upL_n _ _ w
  rw [hn (k + 47) (by omega)] at c4 c7
  rw [hn (k + 55) (by omega)] at c5 c8
  rw [hn (k + 59) (by omega)] at c6
  refine ⟨hT, TE_eq (fun a q1 q2 => by rw [c2 a (by omega), hn a (by omega)]), hS, fun x w1 w2 => by have := c1 x w1 w2; rw [hn x (by omega)] at this; exact this, ⟨rc, c6⟩, c7, c8, hA, fun x hx => ?_, fun x hx => ?_⟩
  · obtain ⟨q1, q2, q3, q4⟩ := c4 x (hRn x hx)
    rw [hn _ (by omega)] at q2 q3 q4
    exact ⟨q1, q2, q3, q4⟩
  · obtain ⟨q1, q2⟩ := c5 x (hRc x hx).1
    rw [upL_s, gI_sn (hRc x hx).2] at q2
    exact ⟨q1, q2⟩
theorem nd_snoc : ∀ (l : List Nat) (x : Nat), l.Nodup → ¬ x ∈ l → (l ++ [x]).Nodup := by
  intro l
  induction l with
  | nil => intro x _ _; simp
  | cons a l ih =>
    intro x h1 h2
    rw [List.nodup_cons] at h1
    rw [List.cons_append, List.nodup_cons]
    refine ⟨fun z => ?_, ih x h1.2 (fun z => h2 (List.mem_cons_of_mem _ z))⟩
    rcases List.mem_append.mp z with z | z
    · exact h1.1 z
    · have : a = x := by simpa using z
      exact h2 (this ▸ List.mem_cons_self ..)
/-- what holds between two alternatives -/
def CAi (k h M n : Nat) (D : List Df) (F : fT) (nest b : Nat) (S : List Sl) (i : Nat) (s : Sl) (f : Nat) (brs : List Br) (κ uk : Nat) (I0 B0 : iT) (J0 : jT) (L0 : lT) (P0 md0 wd0 : Nat) (s6 s8 s0 : List Int32) (I B : iT) (J : jT) (L : lT) (P md wd : Nat) (a6 a8 a0 : List Int32) (bl : List Alt) (mm z : Nat) : Prop :=
  (PU k h M n D F I B J L P md (nest + 1) nest S a6 a8 a0 wd b ∧ SOK k h M L B J n nest S ∧ SV B J n (nest + 1) S ∧ md + 1 ≤ P ∧ CHO k L B J (fun v => 1400 * h ≤ v ∧ v < M) s.2.2.1 s.2.2.2.1 f brs) ∧
  (κ = (L0 (k + 47)).length ∧ gI (L (k + 47)) κ = 308 ∧ gI (L (k + 49)) κ = nI i ∧ gI (L (k + 51)) κ = nI (L0 (k + 55)).length ∧ gI (L (k + 53)) κ = nI brs.length) ∧
  ((L0 (k + 55)).length + brs.length ≤ (L (k + 55)).length ∧ ∀ (j : Nat) (e' : Br), brs[j]? = some e' → gI (L (k + 55)) ((L0 (k + 55)).length + j) = nI (cN e'.2.1)) ∧
  (uk = 1400 * h + md0 ∧ md0 < md ∧ M ≤ uk ∧ B 188 uk = 47 ∧ B 189 uk = nI (sg n i)) ∧
  (altR B J (fun v => 1400 * h + md0 + 1 ≤ v ∧ v < 1400 * h + md) (B 190 uk) bl ∧ (bl.map (fun e => e.1)).Nodup ∧ (bl.map (fun e => e.2.1)).Nodup) ∧
  (∀ (j : Nat) (e' : Br), brs[j]? = some e' → (gI (L (k + 57)) ((L0 (k + 55)).length + j) = -1 ↔ ∀ e ∈ bl, e.2.2.1 ≠ e'.2.1)) ∧
  (∀ e ∈ bl, (∃ e' : Br, brs[e.2.1]? = some e' ∧ e'.2.1 = e.2.2.1 ∧ e'.2.2.2.1 = e.2.2.2.1) ∧ isN e.2.2.1 ∧ gI (L (k + 57)) ((L0 (k + 55)).length + e.2.1) = nI e.2.2.2.2.2.1 ∧ PR k n D L B J (fun v => (1400 * h + md0 + 1 ≤ v ∧ v < 1400 * h + md) ∧ ∀ x ∈ bl, v ≠ x.1) (fun x => κ + 1 ≤ x ∧ x < (L (k + 47)).length) (fun c => (L0 (k + 55)).length + brs.length ≤ c ∧ c < (L (k + 55)).length) mm e.2.2.2.2.1 e.2.2.2.2.2.1 e.2.2.2.2.2.2 ((gm S).set i (2, e.2.2.2.1)) ∧ e.2.2.2.2.2.2 ≤ mm) ∧
  mm + κ + 1 ≤ (L (k + 47)).length ∧ PG0 k L0 L P0 P md0 md ∧ 3 * (L (k + 55)).length + P0 + 3 * bl.length + z ≤ 3 * (L0 (k + 55)).length + 3 * brs.length + P ∧ (wd0 ≤ wd ∧ ∀ e ∈ bl, wd0 + e.2.2.2.2.2.2 ≤ wd) ∧ cW k I0 I ∧ rP h md0 nest B0 J0 B J ∧ LK (nest + 1) s6 s8 s0 a6 a8 a0
end
