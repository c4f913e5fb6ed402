/-! THE RUN: class beside reference (pure) -/
/-- how many are OVER -/
def cO (l : List Int32) : Nat := (l.filter (fun x => decide (x = 1))).length
theorem cO_le (l : List Int32) : cO l ≤ l.length := List.length_filter_le _ _
/-- all nodes lie in the half that runs -/
def QH (B0 : iT) (Q : Nat → Prop) : Prop := ∀ v, Q v → 1400 * (B0 186 31).toNatClampNeg ≤ v ∧ v < 1400 * (B0 186 31).toNatClampNeg + 1400
/-- a book that was taken -/
def BK (k h md : Nat) (D : List Df) (L : lT) (B : iT) (J : jT) : Prop :=
  (k = 12 ∨ k = 73) ∧ h < 2 ∧ tabL k L ∧ sumL k L ∧ nodL k L ∧ DD k h (1400 * h + md) L B J D ∧ DX k h md L B J D ∧ (∃ D' e, D = D' ++ [e] ∧ e.2.1 = []) ∧ ((L (k + 19)).length ≤ 1000 ∧ (L (k + 47)).length ≤ 250 ∧ (L (k + 2)).length ≤ 1000 ∧ (L (k + 10)).length ≤ 500 ∧ (L (k + 59)).length ≤ 500 ∧ (L (k + 55)).length ≤ 500) ∧ ((L (k + 35)).length = D.length ∧ (L (k + 37)).length = D.length ∧ (L (k + 39)).length = D.length ∧ (L (k + 41)).length = D.length ∧ (L (k + 43)).length = D.length ∧ (L (k + 45)).length = 4 * D.length) ∧ (∃ wn, (L (k + 29)).length = wn ∧ wn ≤ 12 ∧ B 204 h = nI wn) ∧ md ≤ 1000 ∧ B 186 31 = nI h
/-- the reference's book stands still -/
def SB (h : Nat) (B0 : iT) (J0 : jT) (B : iT) (J : jT) : Prop := (∀ q, 188 ≤ q → q ≤ 205 → B q = B0 q) ∧ (∀ q, 192 ≤ q → q ≤ 196 → J q = J0 q) ∧ B 186 31 = nI h ∧ B 186 33 = 1 ∧ B 186 76 = nI 0
def PCc (np : Nat) (R : lT) (B : iT) : Prop := ((R 164).length = np ∧ (R 166).length = np ∧ (R 168).length = np ∧ (R 170).length = np ∧ (R 172).length = np ∧ (R 174).length = np ∧ (R 176).length = 6800) ∧ ∀ p, p < np → (gI (R 168) p = 0 ∨ gI (R 168) p = 1) ∧ B 219 p = gI (R 168) p ∧ B 215 p = gI (R 170) p ∧ B 216 p = gI (R 174) p ∧ B 214 p = nI p ∧ B 212 p = gI (R 164) p ∧ (gI (R 168) p = 0 → B 217 p = gI (R 172) p) ∧ (gI (R 168) p = 1 → gI (R 172) p = 0) ∧ gI (R 176) (p * 85) = nI p
def PRC (k : Nat) (D : List Df) (L : lT) (B0 : iT) (J0 : jT) (np : Nat) (rl : Nat → Nat) (ch : Nat → Nat → Nat) (R : lT) (B : iT) (z : Nat → Prop) (p : Nat) (G : Gm) : Prop :=
  ∃ (f : Nat) (e : Df) (u κ l m : Nat) (Q Rn Rc : Nat → Prop), D[f]? = some e ∧ gI (R 164) p = nI f ∧ gI (R 166) p = nI κ ∧ B 213 p = nI u ∧ PR k e.2.1.length (D.take f) L B0 J0 Q Rn Rc m u κ l G ∧ (m ≤ 250 ∧ QH B0 Q) ∧ e.2.1.length + 1 ≤ G.length ∧ G.length ≤ 85 ∧ (∀ (i t : Nat), G[i]? = some (2, t) → TRX k L B0 J0 t) ∧ (∀ (i t : Nat), G[i]? = some (1, t) → gI (R 176) (p * 85 + i) = B 218 (128 * p + sg e.2.1.length i)) ∧ (∀ (i t : Nat), G[i]? = some (2, t) → ∃ x y, gI (R 176) (p * 85 + i) = nI x ∧ B 218 (128 * p + sg e.2.1.length i) = nI y ∧ x < np ∧ y < np ∧ rl x = chX rl ch p i ∧ rl y = chX rl ch p i) ∧ (z p → B0 188 u ≠ 52 ∧ gI (L (k + 47)) κ ≠ 312)
/-- a MESSAGE that is there, in both -/
def MCL (np : Nat) (rl : Nat → Nat) (R : lT) (B : iT) (J : jT) (m : Nat) : Prop := B 223 m = gI (R 158) m ∧ ((gI (R 158) m = 0 ∧ gI (R 160) m = B 224 m ∧ J 226 m = 0) ∨ (gI (R 158) m = 1 ∧ J 226 m = 0 ∧ ∃ v y, gI (R 160) m = nI v ∧ B 224 m = nI y ∧ v < np ∧ y < np ∧ rl y = v) ∨ (gI (R 158) m = 2 ∧ B 224 m = 0 ∧ ∃ w, isN w ∧ gI (R 160) m = nI (cN w) ∧ J 226 m = lN (rN w)) ∨ (gI (R 158) m = 3 ∧ gI (R 160) m = 0 ∧ B 224 m = 0 ∧ J 226 m = 0))
/-- all MESSAGES, by rows -/
def QAL (np : Nat) (rl : Nat → Nat) (q : Nat → List Nat) (R : lT) (B : iT) (J : jT) : Prop := ∀ c, c < np → rl c = c → ∀ s, s < 2 → QCc R (2 * c + s) (q (2 * c + s)) ∧ QCr B (2 * c + s) (q (2 * c + s)) ∧ ∀ m, m ∈ q (2 * c + s) → MCL np rl R B J m
def SAI (sd : Nat) (R : lT) (B : iT) : Prop := (R 182).length = min sd 200 ∧ (R 184).length = min sd 200 ∧ ∀ i, i < min sd 200 → gI (R 182) i = B 227 i ∧ gI (R 184) i = B 228 i
/-- numbers of a run: steps done, numbers SAID -/
def SCA (sp : Int32) (np nm dn sd : Nat) (I B : iT) : Prop := B 186 60 = nI np ∧ B 186 61 = nI np ∧ I 148 14 = nI dn ∧ B 186 62 = nI dn ∧ dn ≤ 600 ∧ nm ≤ dn ∧ B 186 64 = nI nm ∧ I 148 13 = nI sd ∧ B 186 63 = nI sd ∧ sd ≤ dn ∧ I 148 15 = B 186 65 ∧ B 186 65 = sp
/-- the run's talk -/
def TLK (k : Nat) (D : List Df) (L : lT) (B0 : iT) (J0 : jT) (np nm : Nat) (R : lT) (B : iT) (J : jT) (z : Nat → Prop) (Γ : Nat → Gm) (ch : Nat → Nat → Nat) (rl dp : Nat → Nat) (ow : Nat → Nat × Nat × Nat) (Gt Ht : Nat → Nat) (q : Nat → List Nat) (mr rk : Nat → Nat) : Prop :=
  TYI k L np nm (fun p => gI (R 168) p = 0) Γ ch rl ow Gt Ht q mr rk (gI (R 158)) (gI (R 160)) ∧ CHC np R B rl dp ∧ (∀ x, x < np → dp x ≤ cO (R 168)) ∧ CHL np nm R ∧ QAL np rl q R B J ∧ ∀ p, p < np → gI (R 168) p = 0 → PRC k D L B0 J0 np rl ch R B z p (Γ p)
/-- class and reference run alike; z: who has gone through his ifs -/
def RUN (sp : Int32) (k h md : Nat) (D : List Df) (L : lT) (B0 : iT) (J0 : jT) (F : fT) (I B : iT) (J : jT) (np nm dn sd : Nat) (R : lT) (z : Nat → Prop) : Prop :=
  BK k h md D L B0 J0 ∧ SB h B0 J0 B J ∧ F 148 12 = k ∧ RK I k L ∧ RN I R ∧ PCc np R B ∧ SCA sp np nm dn sd I B ∧ SAI sd R B ∧ ∃ Γ ch rl dp ow Gt Ht q mr rk, TLK k D L B0 J0 np nm R B J z Γ ch rl dp ow Gt Ht q mr rk
theorem gI_snoc (l : List Int32) (x : Int32) : gI (l ++ [x]) = a_u1 (gI l) l.length x := by
  funext i
  rcases Nat.lt_trichotomy i l.length with h | h | h
  · rw [gI_l _ h, a_u1_n _ _ (by omega)]
  · subst h
    rw [gI_e, a_u1_s]
  · rw [a_u1_n _ _ (by omega)]
    unfold gI
    rw [List.getD_eq_getElem?_getD, List.getD_eq_getElem?_getD, List.getElem?_eq_none (by rw [List.length_append, List.length_singleton]; omega), List.getElem?_eq_none (by omega)]
theorem cO_set {l : List Int32} : ∀ {p : Nat}, gI l p = 0 → p < l.length → cO (l.set p 1) = cO l + 1 := by
  induction l with
  | nil => intro p _ h; cases h
  | cons x l ih =>
    intro p h0 hp
    cases p with
    | zero =>
      have hx : x = 0 := h0
      subst hx
      show ((1 :: l).filter _).length = ((0 :: l).filter _).length + 1
      rw [List.filter_cons_of_pos (by decide), List.filter_cons_of_neg (by decide)]
      rfl
    | succ p =>
      have := ih (p := p) h0 (by simpa using hp)
      unfold cO at this ⊢
      rw [List.set_cons_succ]
      by_cases hx : x = 1
      · rw [List.filter_cons_of_pos (by simpa using hx), List.filter_cons_of_pos (by simpa using hx), List.length_cons, List.length_cons, this]
      · rw [List.filter_cons_of_neg (by simpa using hx), List.filter_cons_of_neg (by simpa using hx), this]
theorem cO_app (l : List Int32) : cO (l ++ [0]) = cO l := by
  unfold cO
  rw [List.filter_append]
  simp
