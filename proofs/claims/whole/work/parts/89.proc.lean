/-! PROCESSES AS NODES, in both (pure) -/
/-- what is there, by places: (0, _) gone, (1, _) a NUMBER, (2, t) a CHANNEL of T t -/
abbrev Gm : Type := List (Nat × Nat)
def gm (S : List Sl) : Gm := S.map (fun s => (s.1, s.2.2.2.1))
def hasG (Γ : Gm) : Prop := ∃ (i t : Nat), 1 ≤ i ∧ Γ[i]? = some (2, t)
def nsG (Γ : Gm) (i : Nat) : Prop := ∃ t, Γ[i]? = some (1, t)
/-- a DEF: its NAME, its PARAMS (sort and T), the T that it gives -/
abbrev Df : Type := List Nat × Gm × Nat
/-- ARGS from x on in the reference, from a on in the class, for these PARAMS; Γ' is what is left -/
def argR (k n : Nat) (L : lT) (B : iT) (Q : Nat → Prop) : Gm → Gm → Int32 → Nat → Gm → Prop
  | [], Γ, x, _, Γ' => x = -1 ∧ Γ' = Γ
  | q :: ps, Γ, x, a, Γ' => ∃ b, x = nI b ∧ b < 2800 ∧ Q b ∧ a < (L (k + 59)).length ∧
    ((q.1 = 1 ∧ B 188 b = 55 ∧ ∃ e root f d, B 189 b = nI e ∧ gI (L (k + 59)) a = nI root ∧ ER k n (nsG Γ) L B Q d e root f 28 ∧ argR k n L B Q ps Γ (B 191 b) (a + 1) Γ') ∨
     (q.1 = 2 ∧ B 188 b = 54 ∧ ∃ i, 1 ≤ i ∧ Γ[i]? = some (2, q.2) ∧ B 189 b = nI (sg n i) ∧ gI (L (k + 59)) a = nI i ∧ argR k n L B Q ps (Γ.set i (0, 0)) (B 191 b) (a + 1) Γ'))
/-- an alternative: the branch's node, its place among the branches, its NAME, its T; where it goes on in both; its least -/
abbrev Alt : Type := Nat × Nat × List Nat × Nat × Nat × Nat × Nat
def altR (B : iT) (J : jT) (Q : Nat → Prop) : Int32 → List Alt → Prop
  | x, [] => x = -1
  | x, e :: l => x = nI e.1 ∧ e.1 < 2800 ∧ Q e.1 ∧ J 192 e.1 = lN (rN e.2.2.1) ∧ B 189 e.1 = nI e.2.2.2.2.1 ∧ altR B J Q (B 191 e.1) l
def minA : List Alt → Nat
  | [] => 80
  | e :: l => min e.2.2.2.2.2.2 (minA l)
/-- one node of a P, the rest by X -/
def PH (k n : Nat) (D : List Df) (L : lT) (B : iT) (J : jT) (Q Rn Rc : Nat → Prop) (X : Nat → Nat → Nat → Gm → Prop) (u κ l : Nat) (Γ : Gm) : Prop :=
  u < 2800 ∧ Q u ∧ κ < (L (k + 47)).length ∧ Rn κ ∧
  ((∃ t, B 188 u = 40 ∧ gI (L (k + 47)) κ = 315 ∧ B 189 u = nI n ∧ gI (L (k + 49)) κ = 0 ∧ Γ[0]? = some (2, t) ∧ gI (L (k + 2)) t = 302 ∧ ¬ hasG Γ ∧ l = 1) ∨
   (∃ i t u' l', B 188 u = 41 ∧ gI (L (k + 47)) κ = 316 ∧ B 189 u = nI (sg n i) ∧ gI (L (k + 49)) κ = nI i ∧ 1 ≤ i ∧ Γ[i]? = some (2, t) ∧ gI (L (k + 2)) t = 302 ∧ B 191 u = nI u' ∧ l = l' + 1 ∧ X u' (κ + 1) l' (Γ.set i (0, 0))) ∨
   (∃ i t t' e root f d u' l', B 188 u = 42 ∧ gI (L (k + 47)) κ = 303 ∧ B 189 u = nI (sg n i) ∧ gI (L (k + 49)) κ = nI i ∧ Γ[i]? = some (2, t) ∧ gI (L (k + 2)) t = (if i = 0 then 33 else 63) ∧ (gI (L (k + 6)) t = nI t' ∧ t' < 1000) ∧ B 190 u = nI e ∧ gI (L (k + 51)) κ = nI root ∧ ER k n (nsG Γ) L B Q d e root f 28 ∧ B 191 u = nI u' ∧ l = l' + 1 ∧ X u' (κ + 1) l' (Γ.set i (2, t'))) ∨
   (∃ i t t' u' l', B 188 u = 43 ∧ gI (L (k + 47)) κ = 304 ∧ B 189 u = nI (sg n i) ∧ gI (L (k + 49)) κ = nI i ∧ Γ[i]? = some (2, t) ∧ gI (L (k + 2)) t = (if i = 0 then 63 else 33) ∧ (gI (L (k + 6)) t = nI t' ∧ t' < 1000) ∧ (B 190 u = nI Γ.length ∧ Γ.length < 85) ∧ gI (L (k + 51)) κ = nI Γ.length ∧ B 191 u = nI u' ∧ l = l' + 1 ∧ X u' (κ + 1) l' (Γ.set i (2, t') ++ [(1, 0)])) ∨
   (∃ i j t t1 t2 u' l', B 188 u = 44 ∧ gI (L (k + 47)) κ = 305 ∧ B 189 u = nI (sg n i) ∧ gI (L (k + 49)) κ = nI i ∧ Γ[i]? = some (2, t) ∧ gI (L (k + 2)) t = (if i = 0 then 62 else 60) ∧ gI (L (k + 4)) t = nI t1 ∧ (gI (L (k + 6)) t = nI t2 ∧ t2 < 1000) ∧ 1 ≤ j ∧ j ≠ i ∧ Γ[j]? = some (2, t1) ∧ B 190 u = nI (sg n j) ∧ gI (L (k + 51)) κ = nI j ∧ B 191 u = nI u' ∧ l = l' + 1 ∧ X u' (κ + 1) l' ((Γ.set j (0, 0)).set i (2, t2))) ∨
   (∃ i t t1 t2 u' l', B 188 u = 45 ∧ gI (L (k + 47)) κ = 306 ∧ B 189 u = nI (sg n i) ∧ gI (L (k + 49)) κ = nI i ∧ Γ[i]? = some (2, t) ∧ gI (L (k + 2)) t = (if i = 0 then 60 else 62) ∧ gI (L (k + 4)) t = nI t1 ∧ (gI (L (k + 6)) t = nI t2 ∧ t1 < 1000 ∧ t2 < 1000) ∧ (B 190 u = nI Γ.length ∧ Γ.length < 85) ∧ gI (L (k + 51)) κ = nI Γ.length ∧ B 191 u = nI u' ∧ l = l' + 1 ∧ X u' (κ + 1) l' (Γ.set i (2, t2) ++ [(2, t1)])) ∨
   (∃ i t f m j w t' u' l', B 188 u = 46 ∧ gI (L (k + 47)) κ = 307 ∧ B 189 u = nI (sg n i) ∧ gI (L (k + 49)) κ = nI i ∧ Γ[i]? = some (2, t) ∧ gI (L (k + 2)) t = (if i = 0 then 43 else 38) ∧ gI (L (k + 4)) t = nI f ∧ gI (L (k + 6)) t = nI m ∧ (j < m ∧ m ≤ 6 ∧ t' < 1000) ∧ gI (L (k + 10)) (f + j) = nI (cN w) ∧ gI (L (k + 12)) (f + j) = nI t' ∧ isN w ∧ J 192 u = lN (rN w) ∧ gI (L (k + 51)) κ = nI (cN w) ∧ B 191 u = nI u' ∧ l = l' + 1 ∧ X u' (κ + 1) l' (Γ.set i (2, t'))) ∨
   (∃ i t f m a bl, B 188 u = 47 ∧ gI (L (k + 47)) κ = 308 ∧ B 189 u = nI (sg n i) ∧ gI (L (k + 49)) κ = nI i ∧ Γ[i]? = some (2, t) ∧ gI (L (k + 2)) t = (if i = 0 then 38 else 43) ∧ gI (L (k + 4)) t = nI f ∧ gI (L (k + 6)) t = nI m ∧ 1 ≤ m ∧ m ≤ 6 ∧ gI (L (k + 51)) κ = nI a ∧ gI (L (k + 53)) κ = nI m ∧ a + m ≤ (L (k + 55)).length ∧ altR B J Q (B 190 u) bl ∧ (bl.length = m ∧ ∀ e ∈ bl, e.2.2.2.2.2.2 ≤ 80) ∧ l = 1 + minA bl ∧ (∀ j, j < m → ∃ e ∈ bl, e.2.1 = j) ∧ (∀ e ∈ bl, (e.2.1 < m ∧ e.2.2.2.1 < 1000) ∧ isN e.2.2.1 ∧ Rc (a + e.2.1) ∧ gI (L (k + 10)) (f + e.2.1) = nI (cN e.2.2.1) ∧ gI (L (k + 12)) (f + e.2.1) = nI e.2.2.2.1 ∧ gI (L (k + 55)) (a + e.2.1) = nI (cN e.2.2.1) ∧ gI (L (k + 57)) (a + e.2.1) = nI e.2.2.2.2.2.1 ∧ X e.2.2.2.2.1 e.2.2.2.2.2.1 e.2.2.2.2.2.2 (Γ.set i (2, e.2.2.2.1)))) ∨
   (∃ fd df a Γ1 u' l', B 188 u = 48 ∧ gI (L (k + 47)) κ = 309 ∧ D[fd]? = some df ∧ J 192 u = lN fd ∧ gI (L (k + 51)) κ = nI fd ∧ gI (L (k + 53)) κ = nI a ∧ argR k n L B Q df.2.1 Γ (B 190 u) a Γ1 ∧ (B 189 u = nI Γ.length ∧ Γ.length < 85) ∧ gI (L (k + 49)) κ = nI Γ.length ∧ B 191 u = nI u' ∧ l = l' + 1 ∧ X u' (κ + 1) l' (Γ1 ++ [(2, df.2.2)])) ∨
   (∃ fd df a Γ1, B 188 u = 49 ∧ gI (L (k + 47)) κ = 311 ∧ D[fd]? = some df ∧ B 189 u = nI fd ∧ gI (L (k + 51)) κ = nI fd ∧ gI (L (k + 53)) κ = nI a ∧ argR k n L B Q df.2.1 Γ (B 190 u) a Γ1 ∧ Γ[0]? = some (2, df.2.2) ∧ ¬ hasG Γ1 ∧ l = 1) ∨
   (∃ j t, B 188 u = 50 ∧ gI (L (k + 47)) κ = 310 ∧ B 189 u = nI n ∧ gI (L (k + 49)) κ = 0 ∧ Γ[0]? = some (2, t) ∧ 1 ≤ j ∧ Γ[j]? = some (2, t) ∧ ¬ hasG (Γ.set j (0, 0)) ∧ B 190 u = nI (sg n j) ∧ gI (L (k + 51)) κ = nI j ∧ l = 1) ∨
   (∃ e root f d u' l', B 188 u = 51 ∧ gI (L (k + 47)) κ = 314 ∧ B 189 u = nI e ∧ gI (L (k + 51)) κ = nI root ∧ ER k n (nsG Γ) L B Q d e root f 28 ∧ B 191 u = nI u' ∧ l = l' + 1 ∧ X u' (κ + 1) l' Γ) ∨
   (∃ e root f d uy un κ2 l1 l2, B 188 u = 52 ∧ gI (L (k + 47)) κ = 312 ∧ B 189 u = nI e ∧ gI (L (k + 53)) κ = nI root ∧ ER k n (nsG Γ) L B Q d e root f 28 ∧ B 190 u = nI uy ∧ J 192 u = lN un ∧ gI (L (k + 51)) κ = nI κ2 ∧ l = min l1 l2 ∧ X uy (κ + 1) l1 Γ ∧ X un κ2 l2 Γ))
def PR (k n : Nat) (D : List Df) (L : lT) (B : iT) (J : jT) (Q Rn Rc : Nat → Prop) : Nat → Nat → Nat → Nat → Gm → Prop
  | 0 => fun _ _ _ _ => False
  | m + 1 => PH k n D L B J Q Rn Rc (PR k n D L B J Q Rn Rc m)
/-- what a finished P asks of later states -/
def PK (k : Nat) (L L' : lT) (B B' : iT) (J J' : jT) (Q Rn Rc : Nat → Prop) : Prop :=
  tabL k L ∧ TE k L L' ∧ sumL k L ∧ SE k L L' ∧ (∃ r, L' (k + 59) = L (k + 59) ++ r) ∧ (L (k + 47)).length ≤ (L' (k + 47)).length ∧ (L (k + 55)).length ≤ (L' (k + 55)).length ∧ (∀ v, Q v → (B' 188 v = B 188 v ∧ B' 189 v = B 189 v ∧ B' 190 v = B 190 v ∧ B' 191 v = B 191 v ∧ J' 192 v = J 192 v)) ∧ (∀ κ, Rn κ → (gI (L' (k + 47)) κ = gI (L (k + 47)) κ ∧ gI (L' (k + 49)) κ = gI (L (k + 49)) κ ∧ gI (L' (k + 51)) κ = gI (L (k + 51)) κ ∧ gI (L' (k + 53)) κ = gI (L (k + 53)) κ)) ∧ (∀ c, Rc c → (gI (L' (k + 55)) c = gI (L (k + 55)) c ∧ gI (L' (k + 57)) c = gI (L (k + 57)) c))
section
variable {k n : Nat} {D : List Df} {L L' : lT} {B B' : iT} {J J' : jT} {Q Q' Rn Rn' Rc Rc' : Nat → Prop}
theorem arg_to (H : PK k L L' B B' J J' Q Rn Rc) (hQ : ∀ v, Q v → Q' v) : ∀ (ps Γ : Gm) (x : Int32) (a : Nat) (Γ' : Gm), argR k n L B Q ps Γ x a Γ' → argR k n L' B' Q' ps Γ x a Γ' := by
  obtain ⟨h1, h2, h3, h4, ⟨r, h5⟩, h6, h7, h8, h9, h10⟩ := H
  intro ps
  induction ps with
  | nil => intro Γ x a Γ' h; exact h
  | cons q ps ih =>
    intro Γ x a Γ' h
    obtain ⟨b, b1, b2, b3, b4, hb⟩ := h
    obtain ⟨a1, a2, a3, a4, a5⟩ := h8 b b3
    have e59 : gI (L' (k + 59)) a = gI (L (k + 59)) a := by rw [h5, gI_l _ b4]
    refine ⟨b, b1, b2, hQ b b3, by rw [h5, List.length_append]; omega, ?_⟩
    rw [a1, a2, a4, e59]
    rcases hb with ⟨c1, c2, e, root, f, d, c3, c4, c5, c6⟩ | ⟨c1, c2, i, c3, c4, c5, c6, c7⟩
    · exact Or.inl ⟨c1, c2, e, root, f, d, c3, c4, er_to h3 h4 (fun v hv => ⟨(h8 v hv).1, (h8 v hv).2.1, (h8 v hv).2.2.1⟩) hQ _ _ _ _ _ _ _ (Nat.le_refl _) (Nat.le_refl _) c5, ih _ _ _ _ c6⟩
    · exact Or.inr ⟨c1, c2, i, c3, c4, c5, c6, ih _ _ _ _ c7⟩
theorem alt_to (H : PK k L L' B B' J J' Q Rn Rc) (hQ : ∀ v, Q v → Q' v) : ∀ (bl : List Alt) (x : Int32), altR B J Q x bl → altR B' J' Q' x bl := by
  obtain ⟨h1, h2, h3, h4, h5, h6, h7, h8, h9, h10⟩ := H
  intro bl
  induction bl with
  | nil => intro x h; exact h
  | cons e l ih =>
    intro x h
    obtain ⟨b1, b2, b3, b4, b5, b6⟩ := h
    obtain ⟨a1, a2, a3, a4, a5⟩ := h8 e.1 b3
    exact ⟨b1, b2, hQ _ b3, by rw [a5]; exact b4, by rw [a2]; exact b5, by rw [a4]; exact ih _ b6⟩
end
