/-! TALKS GO ON: Ts along MESSAGES (pure) -/
def TRX (k : Nat) (L : lT) (_ : iT) (_ : jT) (t : Nat) : Prop := ∃ (B1 : iT) (J1 : jT) (Q : Nat → Prop) (d u p : Nat), p ≤ 200 ∧ TR k L B1 J1 Q d u t p
section
variable {k : Nat} {L : lT} {B0 : iT} {J0 : jT} {t : Nat}
theorem trx_lt (h : TRX k L B0 J0 t) (hK : (L (k + 2)).length ≤ 1000) : t < 1000 := by
  obtain ⟨B1, J1, Q, d, u, p, h1, h2⟩ := h
  have := (tr_u h2).2.2
  omega
theorem trx_one {t' kd : Nat} (h : TRX k L B0 J0 t) (hK : (L (k + 2)).length ≤ 1000) (hk : gI (L (k + 2)) t = nI kd) (hkd : kd = 33 ∨ kd = 63) (hs : gI (L (k + 6)) t = nI t') (ht : t' < 1000) : TRX k L B0 J0 t' := by
  obtain ⟨B1, J1, Q, d, u, p, h1, h2⟩ := h
  obtain ⟨u1, t1, p1, z1, z2, z3, z4, z5⟩ := tr_one h2 h1 hk hkd
  have := (tr_u z5).2.2
  have e : t1 = t' := (nI_eq (by omega) (by omega)).mp (z3.symm.trans hs)
  subst e
  exact ⟨B1, J1, Q, p1, u1, p1, z4, z5⟩
theorem trx_two {t1 t2 kd : Nat} (h : TRX k L B0 J0 t) (hK : (L (k + 2)).length ≤ 1000) (hk : gI (L (k + 2)) t = nI kd) (hkd : kd = 62 ∨ kd = 60) (hf : gI (L (k + 4)) t = nI t1) (hs : gI (L (k + 6)) t = nI t2) (h1' : t1 < 1000) (h2' : t2 < 1000) : TRX k L B0 J0 t1 ∧ TRX k L B0 J0 t2 := by
  obtain ⟨B1, J1, Q, d, u, p, h1, h2⟩ := h
  obtain ⟨u1, x1, p1, u2, x2, p2, z1, z2, z3, z4, z5, z6, z7, z8⟩ := tr_two h2 h1 hk hkd
  have w1 := (tr_u z7).2.2
  have w2 := (tr_u z8).2.2
  have e1 : x1 = t1 := (nI_eq (by omega) (by omega)).mp (z3.symm.trans hf)
  have e2 : x2 = t2 := (nI_eq (by omega) (by omega)).mp (z4.symm.trans hs)
  subst e1 e2
  exact ⟨⟨B1, J1, Q, p1, u1, p1, z5, z7⟩, ⟨B1, J1, Q, p2, u2, p2, z6, z8⟩⟩
theorem trx_cho {f m kd : Nat} (h : TRX k L B0 J0 t) (hK : (L (k + 2)).length ≤ 1000) (hN : (L (k + 10)).length ≤ 500) (hk : gI (L (k + 2)) t = nI kd) (hkd : kd = 43 ∨ kd = 38) (hf : gI (L (k + 4)) t = nI f) (hs : gI (L (k + 6)) t = nI m) (hf5 : f < 1000) (hm : m ≤ 6) : (∀ j t', j < m → gI (L (k + 12)) (f + j) = nI t' → t' < 1000 → TRX k L B0 J0 t') ∧ (∀ i j, i < m → j < m → gI (L (k + 10)) (f + i) = gI (L (k + 10)) (f + j) → i = j) := by
  obtain ⟨B1, J1, Q, d, u, p, h1, h2⟩ := h
  obtain ⟨f0, bl, g1, g2, g3, g4, g5, g6, g7, g8, g9, g10⟩ := tr_cho h2 h1 hk hkd
  have e1 : f0 = f := (nI_eq (by omega) (by omega)).mp (g3.symm.trans hf)
  have e2 : bl.length = m := (nI_eq (by omega) (by omega)).mp (g4.symm.trans hs)
  subst e1
  refine ⟨fun j t' hj ht ht' => ?_, fun i j hi hj he => ?_⟩
  · obtain ⟨e, he⟩ : ∃ e, bl[j]? = some e := ⟨bl[j]'(by omega), List.getElem?_eq_getElem (by omega)⟩
    obtain ⟨v1, v2, v3, v4, v5, v6⟩ := g10 j e he
    have w1 := (tr_u v6).2.2
    have e3 : e.2.2.2.1 = t' := (nI_eq (by omega) (by omega)).mp (v4.symm.trans ht)
    rw [← e3]
    exact ⟨B1, J1, Q, e.2.2.2.2, e.2.2.1, e.2.2.2.2, v5, v6⟩
  · obtain ⟨a, ha⟩ : ∃ e, bl[i]? = some e := ⟨bl[i]'(by omega), List.getElem?_eq_getElem (by omega)⟩
    obtain ⟨b, hb⟩ : ∃ e, bl[j]? = some e := ⟨bl[j]'(by omega), List.getElem?_eq_getElem (by omega)⟩
    obtain ⟨_, a2, a3, _⟩ := g10 i a ha
    obtain ⟨_, b2, b3, _⟩ := g10 j b hb
    rw [a3, b3] at he
    exact bl_inj g9 i j a b ha hb ((cN_inj a2.1 b2.1 a2.2.2 b2.2.2).mp he)
end
/-- one MESSAGE m takes the T t to t' -/
def TM (k : Nat) (L : lT) (a b c : Int32) (en : Prop) (kd va : Nat → Int32) (Ht : Nat → Nat) (t m t' : Nat) : Prop :=
  (kd m = 0 ∧ gI (L (k + 2)) t = a ∧ gI (L (k + 6)) t = nI t' ∧ t' < 1000) ∨
  (kd m = 1 ∧ gI (L (k + 2)) t = b ∧ gI (L (k + 6)) t = nI t' ∧ t' < 1000 ∧ ∃ v, va m = nI v ∧ v < 80 ∧ gI (L (k + 4)) t = nI (Ht v) ∧ Ht v < 1000) ∨
  (kd m = 2 ∧ gI (L (k + 2)) t = c ∧ t' < 1000 ∧ ∃ f n j w, gI (L (k + 4)) t = nI f ∧ f < 1000 ∧ gI (L (k + 6)) t = nI n ∧ n ≤ 6 ∧ j < n ∧ isN w ∧ gI (L (k + 10)) (f + j) = nI (cN w) ∧ va m = nI (cN w) ∧ gI (L (k + 12)) (f + j) = nI t') ∨
  (en ∧ kd m = 3 ∧ gI (L (k + 2)) t = 302 ∧ t' = 5000)
def TMd (k : Nat) (L : lT) (kd va : Nat → Int32) (Ht : Nat → Nat) : Nat → Nat → Nat → Prop := TM k L 33 62 43 True kd va Ht
def TMu (k : Nat) (L : lT) (kd va : Nat → Int32) (Ht : Nat → Nat) : Nat → Nat → Nat → Prop := TM k L 63 60 38 False kd va Ht
def pth (r : Nat → Nat → Nat → Prop) : Nat → List Nat → Nat → Prop
  | t, [], T => t = T
  | t, m :: l, T => ∃ t', r t m t' ∧ pth r t' l T
def isD (x : Int32) : Prop := x = 33 ∨ x = 62 ∨ x = 43 ∨ x = 302
def isU (x : Int32) : Prop := x = 63 ∨ x = 60 ∨ x = 38
theorem isU_D {x : Int32} (h : isU x) : ¬ isD x := by
  unfold isD
  rcases h with rfl | rfl | rfl <;> decide
theorem isD_U {x : Int32} (h : isD x) : ¬ isU x := fun z => isU_D z h
section
variable {k : Nat} {L : lT} {kd va kd' va' : Nat → Int32} {Ht Ht' : Nat → Nat} {r r' : Nat → Nat → Nat → Prop}
theorem tm_to {a b c : Int32} {en : Prop} {t m t' : Nat} (h : TM k L a b c en kd va Ht t m t') (h1 : kd' m = kd m) (h2 : va' m = va m) (h3 : kd m = 1 → ∀ v, v < 80 → va m = nI v → Ht' v = Ht v) : TM k L a b c en kd' va' Ht' t m t' := by
  unfold TM
  rw [h1, h2]
  rcases h with h | ⟨e1, e2, e3, e4, v, e5, e6, e7, e8⟩ | h | h
  · exact Or.inl h
  · have := h3 e1 v e6 e5
    exact Or.inr (Or.inl ⟨e1, e2, e3, e4, v, e5, e6, by rw [this]; exact e7, by rw [this]; exact e8⟩)
  · exact Or.inr (Or.inr (Or.inl h))
  · exact Or.inr (Or.inr (Or.inr h))
theorem tmd_K {t m t' : Nat} (h : TMd k L kd va Ht t m t') : isD (gI (L (k + 2)) t) := by
  rcases h with ⟨_, h, _⟩ | ⟨_, h, _⟩ | ⟨_, h, _⟩ | ⟨_, _, h, _⟩
  · exact Or.inl h
  · exact Or.inr (Or.inl h)
  · exact Or.inr (Or.inr (Or.inl h))
  · exact Or.inr (Or.inr (Or.inr h))
theorem tmu_K {t m t' : Nat} (h : TMu k L kd va Ht t m t') : isU (gI (L (k + 2)) t) := by
  rcases h with ⟨_, h, _⟩ | ⟨_, h, _⟩ | ⟨_, h, _⟩ | ⟨h, _⟩
  · exact Or.inl h
  · exact Or.inr (Or.inl h)
  · exact Or.inr (Or.inr h)
  · exact h.elim
theorem pth_app : ∀ (l : List Nat) (t : Nat) (l2 : List Nat) (T : Nat), pth r t (l ++ l2) T ↔ ∃ t1, pth r t l t1 ∧ pth r t1 l2 T := by
  intro l
  induction l with
  | nil => intro t l2 T; exact ⟨fun h => ⟨t, rfl, h⟩, fun ⟨t1, h1, h2⟩ => by cases h1; exact h2⟩
  | cons m l ih =>
    intro t l2 T
    constructor
    · intro ⟨t', h1, h2⟩
      obtain ⟨t1, h3, h4⟩ := (ih t' l2 T).mp h2
      exact ⟨t1, ⟨t', h1, h3⟩, h4⟩
    · intro ⟨t1, ⟨t', h1, h3⟩, h4⟩
      exact ⟨t', h1, (ih t' l2 T).mpr ⟨t1, h3, h4⟩⟩
theorem pth_to : ∀ (l : List Nat) (t T : Nat), (∀ t m t', m ∈ l → r t m t' → r' t m t') → pth r t l T → pth r' t l T := by
  intro l
  induction l with
  | nil => intro t T _ h; exact h
  | cons m l ih =>
    intro t T h ⟨t', h1, h2⟩
    exact ⟨t', h _ _ _ (List.mem_cons_self ..) h1, ih t' T (fun a b c hb => h a b c (List.mem_cons_of_mem _ hb)) h2⟩
theorem pth_u0 {t T : Nat} {l : List Nat} (h : pth (TMu k L kd va Ht) t l T) (hk : isD (gI (L (k + 2)) t)) : l = [] ∧ T = t := by
  cases l with
  | nil => exact ⟨rfl, h.symm⟩
  | cons m l =>
    obtain ⟨t', h1, _⟩ := h
    exact absurd (tmu_K h1) (isD_U hk)
theorem pth_d0 {t T : Nat} {l : List Nat} (h : pth (TMd k L kd va Ht) t l T) (hk : isU (gI (L (k + 2)) t)) : l = [] ∧ T = t := by
  cases l with
  | nil => exact ⟨rfl, h.symm⟩
  | cons m l =>
    obtain ⟨t', h1, _⟩ := h
    exact absurd (tmd_K h1) (isU_D hk)
end
/-- where the end of a CHANNEL that one has hangs -/
def paO (rl mr : Nat → Nat) (o : Nat × Nat × Nat) : Nat := if o.1 = 1 then rl o.2.1 else mr o.2.1 / 2
/-- a run's CHANNELS keep to their Ts: np PROCESSES, nm MESSAGES so far; al who is not OVER; Γ what each has; ch its CHANNELS; rl a CHANNEL's name now; ow where its end lies; Gt, Ht its Ts at both ends; q its rows; mr a MESSAGE's row; rk ranks -/
def TYI (k : Nat) (L : lT) (np nm : Nat) (al : Nat → Prop) (Γ : Nat → Gm) (ch : Nat → Nat → Nat) (rl : Nat → Nat) (ow : Nat → Nat × Nat × Nat) (Gt Ht : Nat → Nat) (q : Nat → List Nat) (mr rk : Nat → Nat) (kd va : Nat → Int32) : Prop :=
  (∀ x, x < np → rl x < np ∧ rl (rl x) = rl x) ∧
  (∀ p, p < np → al p → ∃ t, (Γ p)[0]? = some (2, t) ∧ Gt (rl p) = t) ∧
  (∀ p p', p < np → p' < np → al p → al p' → rl p = rl p' → p = p') ∧
  (∀ p, p < np → al p → ∀ i t, 1 ≤ i → (Γ p)[i]? = some (2, t) → ch p i < np ∧ rl (ch p i) = ch p i ∧ ow (ch p i) = (1, p, i) ∧ Ht (ch p i) = t) ∧
  (∀ c, c < np → rl c = c → ∃ T, pth (TMu k L kd va Ht) (Gt c) (q (2 * c + 1)) T ∧ ((ow c).1 ≠ 0 → pth (TMd k L kd va Ht) (Ht c) (q (2 * c)) T)) ∧
  (∀ c, c < np → rl c = c → ∀ s, s < 2 → (q (2 * c + s)).Nodup ∧ ∀ m, m ∈ q (2 * c + s) → m < nm ∧ mr m = 2 * c + s ∧ (kd m = 1 → ∃ v, va m = nI v ∧ v < np ∧ rl v = v ∧ ow v = (2, m, 0))) ∧
  (∀ c, c < np → rl c = c → (ow c).1 ≠ 0 → ((ow c).1 ≠ 1 → (ow c).2.1 < nm) ∧ ((ow c).1 = 1 → (ow c).2.1 < np) ∧ paO rl mr (ow c) < np ∧ rl (paO rl mr (ow c)) = paO rl mr (ow c) ∧ rk (paO rl mr (ow c)) < rk c) ∧ np ≤ 80
/-- ranks when one child goes under another -/
theorem rerank {ok : Nat → Prop} {pa rk : Nat → Nat} (h : ∀ x, ok x → rk (pa x) < rk x) {d e a : Nat} (hd : ok d) (he : ok e) (hde : d ≠ e) (pd : pa d = a) (pe : pa e = a) : ∃ rk' : Nat → Nat, (∀ x, ok x → x ≠ e → rk' (pa x) < rk' x) ∧ rk' d < rk' e := by
  let Rc : Nat → Nat → Prop := fun n => Nat.rec (fun x => x = e) (fun _ f x => ok x ∧ f (pa x)) n
  have R0 : ∀ x, Rc 0 x ↔ x = e := fun x => Iff.rfl
  have RS' : ∀ n x, Rc (n + 1) x ↔ ok x ∧ Rc n (pa x) := fun n x => Iff.rfl
  have rle : ∀ n x, Rc n x → rk e ≤ rk x := by
    intro n
    induction n with
    | zero => intro x hx; rw [(R0 x).mp hx]; exact Nat.le_refl _
    | succ n ih =>
      intro x hx
      obtain ⟨h1, h2⟩ := (RS' n x).mp hx
      have := ih _ h2
      have := h x h1
      omega
  let Dm : Nat → Prop := fun x => ∃ n, Rc n x
  have De : Dm e := ⟨0, rfl⟩
  have Dx : ∀ x, ok x → x ≠ e → (Dm x ↔ Dm (pa x)) := by
    intro x hx hne
    constructor
    · intro ⟨n, hn⟩
      cases n with
      | zero => exact absurd hn hne
      | succ n => exact ⟨n, ((RS' n x).mp hn).2⟩
    · intro ⟨n, hn⟩
      exact ⟨n + 1, (RS' n x).mpr ⟨hx, hn⟩⟩
  have Dd : ¬ Dm d := by
    intro ⟨n, hn⟩
    cases n with
    | zero => exact hde hn
    | succ n =>
      have h1 := rle n _ ((RS' n d).mp hn).2
      have h2 := h e he
      rw [pe] at h2
      rw [pd] at h1
      omega
  haveI : ∀ x, Decidable (Dm x) := fun x => Classical.propDecidable _
  refine ⟨fun x => rk x + if Dm x then rk d + 1 else 0, fun x hx hne => ?_, ?_⟩
  · have h1 := h x hx
    show rk (pa x) + (if Dm (pa x) then rk d + 1 else 0) < rk x + (if Dm x then rk d + 1 else 0)
    by_cases z : Dm x
    · rw [if_pos z, if_pos ((Dx x hx hne).mp z)]
      omega
    · rw [if_neg z, if_neg (fun w => z ((Dx x hx hne).mpr w))]
      omega
  · show rk d + (if Dm d then rk d + 1 else 0) < rk e + (if Dm e then rk d + 1 else 0)
    rw [if_neg Dd, if_pos De]
    omega
