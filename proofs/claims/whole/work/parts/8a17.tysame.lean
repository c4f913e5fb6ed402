/-! TALKS GO ON (pure): same -/
theorem nd_app : ∀ (l1 l2 : List Nat), l1.Nodup → l2.Nodup → (∀ m ∈ l2, ¬ m ∈ l1) → (l1 ++ l2).Nodup := by
  intro l1
  induction l1 with
  | nil => intro l2 _ h _; exact h
  | cons x l ih =>
    intro l2 h1 h2 h3
    rw [List.nodup_cons] at h1
    rw [List.cons_append, List.nodup_cons]
    refine ⟨fun z => ?_, ih l2 h1.2 h2 (fun m hm w => h3 m hm (List.mem_cons_of_mem _ w))⟩
    rcases List.mem_append.mp z with w | w
    · exact h1.1 w
    · exact h3 x w (List.mem_cons_self ..)
section
variable {k : Nat} {L : lT} {np nm : Nat} {al : Nat → Prop} {Γ : Nat → Gm} {ch : Nat → Nat → Nat} {rl : Nat → Nat} {ow : Nat → Nat × Nat × Nat} {Gt Ht : Nat → Nat} {q : Nat → List Nat} {mr rk : Nat → Nat} {kd va : Nat → Int32}
theorem ty_ne (H : TYI k L np nm al Γ ch rl ow Gt Ht q mr rk kd va) {p j t : Nat} (hp : p < np) (hal : al p) (hj : 1 ≤ j) (hΓ : (Γ p)[j]? = some (2, t)) : rk (rl p) < rk (ch p j) := by
  obtain ⟨y1, y2, y3, y4, y5, y6, y7, y8⟩ := H
  obtain ⟨x1, x2, x3, x4⟩ := y4 p hp hal j t hj hΓ
  have := y7 _ x1 x2 (by rw [x3]; exact Nat.one_ne_zero)
  rw [x3] at this
  exact this.2.2.2.2
/-- rows of two CHANNELS of which none is the other -/
theorem ty_dj (H : TYI k L np nm al Γ ch rl ow Gt Ht q mr rk kd va) {a b s s' : Nat} (ha : a < np) (hb : b < np) (ra : rl a = a) (rb : rl b = b) (hs : s < 2) (hs' : s' < 2) (hne : 2 * a + s ≠ 2 * b + s') : ∀ m, m ∈ q (2 * a + s) → ¬ m ∈ q (2 * b + s') := by
  obtain ⟨y1, y2, y3, y4, y5, y6, y7, y8⟩ := H
  intro m h1 h2
  have e1 := ((y6 a ha ra s hs).2 m h1).2.1
  have e2 := ((y6 b hb rb s' hs').2 m h2).2.1
  omega
theorem ty_same (H : TYI k L np nm al Γ ch rl ow Gt Ht q mr rk kd va) {p j t : Nat} (hp : p < np) (hal : al p) (hj : 1 ≤ j) (h0 : (Γ p)[0]? = some (2, t)) (hΓ : (Γ p)[j]? = some (2, t)) {al' : Nat → Prop} (hal' : ∀ x, x < np → al' x → al x ∧ x ≠ p) :
    TYI k L np nm al' Γ ch (fun x => if rl x = ch p j then rl p else rl x) (a_u1 ow (ch p j) (0, 0, 0)) (a_u1 Gt (rl p) (Gt (ch p j))) Ht (a_u1 (a_u1 q (2 * rl p) (q (2 * rl p) ++ q (2 * ch p j))) (2 * rl p + 1) (q (2 * ch p j + 1) ++ q (2 * rl p + 1))) (fun m => if mr m = 2 * ch p j then 2 * rl p else if mr m = 2 * ch p j + 1 then 2 * rl p + 1 else mr m) rk kd va := by
  have hrk := ty_ne H hp hal hj hΓ
  have H0 := H
  obtain ⟨y1, y2, y3, y4, y5, y6, y7, y8⟩ := H
  obtain ⟨b1, b2, b3, b4⟩ := y4 p hp hal j t hj hΓ
  obtain ⟨a1, a2⟩ := y1 p hp
  obtain ⟨ta, ha1, ha2⟩ := y2 p hp hal
  rw [h0] at ha1
  have hta : t = ta := pair2 ha1
  subst hta
  generalize ea : rl p = a at *
  generalize eb : ch p j = b at *
  have hab : a ≠ b := fun e => by rw [e] at hrk; exact absurd hrk (Nat.lt_irrefl _)
  have hrl : ∀ x, (fun x => if rl x = b then a else rl x) x = if rl x = b then a else rl x := fun _ => rfl
  have hroot : ∀ c, c < np → (if rl c = b then a else rl c) = c → rl c = c ∧ c ≠ b := by
    intro c hc h
    by_cases z : rl c = b
    · rw [if_pos z] at h
      rw [← h, a2] at z
      exact absurd z hab
    · rw [if_neg z] at h
      exact ⟨h, fun e => z (by rw [h]; exact e)⟩
  have hback : ∀ c, rl c = c → c ≠ b → (if rl c = b then a else rl c) = c := fun c h1 h2 => by rw [h1, if_neg h2]
  have nob : ∀ p' i' x, ow x = (1, p', i') → (p' ≠ p ∨ i' ≠ j) → x ≠ b := by
    intro p' i' x h1 h2 e
    rw [e, b3] at h1
    have := (Prod.mk.inj h1).2
    have w1 := (Prod.mk.inj this).1
    have w2 := (Prod.mk.inj this).2
    omega
  have qo : ∀ c s, s < 2 → c ≠ a → (a_u1 (a_u1 q (2 * a) (q (2 * a) ++ q (2 * b))) (2 * a + 1) (q (2 * b + 1) ++ q (2 * a + 1))) (2 * c + s) = q (2 * c + s) := fun c s hs h => by rw [a_u1_n _ _ (by omega), a_u1_n _ _ (by omega)]
  have qa0 : (a_u1 (a_u1 q (2 * a) (q (2 * a) ++ q (2 * b))) (2 * a + 1) (q (2 * b + 1) ++ q (2 * a + 1))) (2 * a) = q (2 * a) ++ q (2 * b) := by rw [a_u1_n _ _ (by omega), a_u1_s]
  have qa1 : (a_u1 (a_u1 q (2 * a) (q (2 * a) ++ q (2 * b))) (2 * a + 1) (q (2 * b + 1) ++ q (2 * a + 1))) (2 * a + 1) = q (2 * b + 1) ++ q (2 * a + 1) := a_u1_s _ _ _
  refine ⟨fun x hx => ?_, fun p' hp' ha => ?_, fun p' p'' h1 h2 h3 h4 h5 => ?_, fun p' hp' ha i' tt hi' hg => ?_, fun c hc hr => ?_, fun c hc hr s hs => ?_, fun c hc hr ho => ?_, y8⟩
  · show (if rl x = b then a else rl x) < np ∧ (if rl (if rl x = b then a else rl x) = b then a else rl (if rl x = b then a else rl x)) = (if rl x = b then a else rl x)
    obtain ⟨x1, x2⟩ := y1 x hx
    by_cases z : rl x = b
    · rw [if_pos z, a2, if_neg hab]
      exact ⟨a1, rfl⟩
    · rw [if_neg z, x2, if_neg z]
      exact ⟨x1, rfl⟩
  · obtain ⟨w1, w2⟩ := hal' p' hp' ha
    obtain ⟨t0, z1, z2⟩ := y2 p' hp' w1
    refine ⟨t0, z1, ?_⟩
    show (a_u1 Gt a (Gt b)) (if rl p' = b then a else rl p') = t0
    by_cases z : rl p' = b
    · rw [if_pos z, a_u1_s, ← z]
      exact z2
    · rw [if_neg z, a_u1_n _ _ (fun e => w2 (y3 p' p hp' hp w1 hal (e.trans ea.symm)))]
      exact z2
  · obtain ⟨w1, w2⟩ := hal' p' h1 h3
    obtain ⟨w3, w4⟩ := hal' p'' h2 h4
    have h5' : (if rl p' = b then a else rl p') = (if rl p'' = b then a else rl p'') := h5
    by_cases z : rl p' = b
    · by_cases z2 : rl p'' = b
      · exact y3 p' p'' h1 h2 w1 w3 (z.trans z2.symm)
      · rw [if_pos z, if_neg z2] at h5'
        exact absurd (y3 p'' p h2 hp w3 hal (h5'.symm.trans ea.symm)) w4
    · by_cases z2 : rl p'' = b
      · rw [if_neg z, if_pos z2] at h5'
        exact absurd (y3 p' p h1 hp w1 hal (h5'.trans ea.symm)) w2
      · rw [if_neg z, if_neg z2] at h5'
        exact y3 p' p'' h1 h2 w1 w3 h5'
  · obtain ⟨w1, w2⟩ := hal' p' hp' ha
    obtain ⟨x1, x2, x3, x4⟩ := y4 p' hp' w1 i' tt hi' hg
    have hb := nob p' i' _ x3 (Or.inl w2)
    exact ⟨x1, hback _ x2 hb, by rw [a_u1_n _ _ hb]; exact x3, x4⟩
  · obtain ⟨r1, r2⟩ := hroot c hc hr
    by_cases e : c = a
    · subst e
      obtain ⟨T1, u1, u2⟩ := y5 c hc r1
      obtain ⟨T2, v1, v2⟩ := y5 b b1 b2
      have v2' := v2 (by rw [b3]; exact Nat.one_ne_zero)
      rw [ha2] at u1
      rw [b4] at v2'
      rw [qa0, qa1, a_u1_s]
      by_cases z : q (2 * c + 1) = []
      · rw [z] at u1 ⊢
        have hT1 : t = T1 := u1
        subst hT1
        rw [List.append_nil]
        refine ⟨T2, v1, fun ho => ?_⟩
        rw [a_u1_n _ _ r2] at ho
        rw [pth_app]
        exact ⟨t, u2 ho, v2'⟩
      · have hU : isU (gI (L (k + 2)) t) := by
          cases hq : q (2 * c + 1) with
          | nil => exact absurd hq z
          | cons m l =>
            rw [hq] at u1
            obtain ⟨t', w, _⟩ := u1
            exact tmu_K w
        obtain ⟨z1, z2⟩ := pth_d0 v2' hU
        subst z2
        rw [z1, List.append_nil]
        refine ⟨T1, by rw [pth_app]; exact ⟨T2, v1, u1⟩, fun ho => ?_⟩
        rw [a_u1_n _ _ r2] at ho
        have := u2 ho
        exact this
    · have q1 := qo c 1 (by omega) e
      have q2 : (a_u1 (a_u1 q (2 * a) (q (2 * a) ++ q (2 * b))) (2 * a + 1) (q (2 * b + 1) ++ q (2 * a + 1))) (2 * c) = q (2 * c) := qo c 0 (by omega) e
      rw [q1, q2, a_u1_n _ _ e, a_u1_n _ _ r2]
      exact y5 c hc r1
  · obtain ⟨r1, r2⟩ := hroot c hc hr
    have vfix : ∀ m, m ∈ q (2 * c + s) ∨ (∃ s', s' < 2 ∧ m ∈ q (2 * b + s')) → (kd m = 1 → ∃ v, va m = nI v ∧ v < np ∧ (fun x => if rl x = b then a else rl x) v = v ∧ (a_u1 ow b (0, 0, 0)) v = (2, m, 0)) := by
      intro m hm h
      have h3 : ∃ v, va m = nI v ∧ v < np ∧ rl v = v ∧ ow v = (2, m, 0) := by
        rcases hm with z | ⟨s', hs', z⟩
        · exact ((y6 c hc r1 s hs).2 m z).2.2 h
        · exact ((y6 b b1 b2 s' hs').2 m z).2.2 h
      obtain ⟨v, z1, z2, z3, z4⟩ := h3
      have hvb : v ≠ b := fun e => by rw [e, b3] at z4; cases z4
      exact ⟨v, z1, z2, hback v z3 hvb, by rw [a_u1_n _ _ hvb]; exact z4⟩
    have mfix : ∀ m, m ∈ q (2 * c + s) → m < nm ∧ (fun m => if mr m = 2 * b then 2 * a else if mr m = 2 * b + 1 then 2 * a + 1 else mr m) m = 2 * c + s := by
      intro m hm
      obtain ⟨x1, x2, _⟩ := (y6 c hc r1 s hs).2 m hm
      refine ⟨x1, ?_⟩
      show (if mr m = 2 * b then 2 * a else if mr m = 2 * b + 1 then 2 * a + 1 else mr m) = _
      rw [x2, if_neg (by omega), if_neg (by omega)]
    have mfixb : ∀ s' m, s' < 2 → m ∈ q (2 * b + s') → m < nm ∧ (fun m => if mr m = 2 * b then 2 * a else if mr m = 2 * b + 1 then 2 * a + 1 else mr m) m = 2 * a + s' := by
      intro s' m hs' hm
      obtain ⟨x1, x2, _⟩ := (y6 b b1 b2 s' hs').2 m hm
      refine ⟨x1, ?_⟩
      show (if mr m = 2 * b then 2 * a else if mr m = 2 * b + 1 then 2 * a + 1 else mr m) = _
      rw [x2]
      have : s' = 0 ∨ s' = 1 := by omega
      rcases this with rfl | rfl
      · exact if_pos (show 2 * b + 0 = 2 * b from rfl)
      · rw [if_neg (by omega), if_pos rfl]
    by_cases e : c = a
    · subst e
      have hs2 : s = 0 ∨ s = 1 := by omega
      rcases hs2 with rfl | rfl
      · rw [show (a_u1 (a_u1 q (2 * c) (q (2 * c) ++ q (2 * b))) (2 * c + 1) (q (2 * b + 1) ++ q (2 * c + 1))) (2 * c + 0) = q (2 * c) ++ q (2 * b) from qa0]
        refine ⟨nd_app _ _ (y6 c hc r1 0 hs).1 (y6 b b1 b2 0 hs).1 (fun m hm => ty_dj H0 b1 hc b2 r1 (s := 0) (s' := 0) (by omega) (by omega) (by omega) m hm), fun m hm => ?_⟩
        rcases List.mem_append.mp hm with z | z
        · exact ⟨(mfix m z).1, (mfix m z).2, vfix m (Or.inl z)⟩
        · exact ⟨(mfixb 0 m hs z).1, (mfixb 0 m hs z).2, vfix m (Or.inr ⟨0, hs, z⟩)⟩
      · rw [qa1]
        refine ⟨nd_app _ _ (y6 b b1 b2 1 hs).1 (y6 c hc r1 1 hs).1 (fun m hm => ty_dj H0 hc b1 r1 b2 (s := 1) (s' := 1) (by omega) (by omega) (by omega) m hm), fun m hm => ?_⟩
        rcases List.mem_append.mp hm with z | z
        · exact ⟨(mfixb 1 m hs z).1, (mfixb 1 m hs z).2, vfix m (Or.inr ⟨1, hs, z⟩)⟩
        · exact ⟨(mfix m z).1, (mfix m z).2, vfix m (Or.inl z)⟩
    · rw [qo c s hs e]
      exact ⟨(y6 c hc r1 s hs).1, fun m hm => ⟨(mfix m hm).1, (mfix m hm).2, vfix m (Or.inl hm)⟩⟩
  · obtain ⟨r1, r2⟩ := hroot c hc hr
    rw [a_u1_n _ _ r2] at ho ⊢
    obtain ⟨x0, x00, x1, x2, x3⟩ := y7 c hc r1 ho
    refine ⟨x0, x00, ?_⟩
    have fin : ∀ y, (y = paO rl mr (ow c) ∧ y ≠ b) ∨ (y = a ∧ paO rl mr (ow c) = b) → y < np ∧ (fun x => if rl x = b then a else rl x) y = y ∧ rk y < rk c := by
      intro y hy
      rcases hy with ⟨h1, h2⟩ | ⟨h1, h2⟩
      · subst h1
        exact ⟨x1, hback _ x2 h2, x3⟩
      · subst h1
        rw [h2] at x3
        exact ⟨a1, hback _ a2 hab, by omega⟩
    refine fin _ ?_
    unfold paO
    by_cases z : (ow c).1 = 1
    · rw [if_pos z, if_pos z]
      show ((if rl (ow c).2.1 = b then a else rl (ow c).2.1) = _ ∧ _) ∨ ((if rl (ow c).2.1 = b then a else rl (ow c).2.1) = _ ∧ _)
      by_cases w : rl (ow c).2.1 = b
      · rw [if_pos w]; exact Or.inr ⟨rfl, w⟩
      · rw [if_neg w]; exact Or.inl ⟨rfl, fun e => w ((if_neg w).symm.trans e)⟩
    · rw [if_neg z, if_neg z]
      show ((if mr (ow c).2.1 = 2 * b then 2 * a else if mr (ow c).2.1 = 2 * b + 1 then 2 * a + 1 else mr (ow c).2.1) / 2 = _ ∧ _) ∨ ((if mr (ow c).2.1 = 2 * b then 2 * a else if mr (ow c).2.1 = 2 * b + 1 then 2 * a + 1 else mr (ow c).2.1) / 2 = _ ∧ _)
      by_cases w : mr (ow c).2.1 = 2 * b
      · rw [if_pos w]; exact Or.inr ⟨by omega, by omega⟩
      · rw [if_neg w]
        by_cases w2 : mr (ow c).2.1 = 2 * b + 1
        · rw [if_pos w2]; exact Or.inr ⟨by omega, by omega⟩
        · rw [if_neg w2]
          refine Or.inl ⟨rfl, fun e => ?_⟩
          have e' : (if mr (ow c).2.1 = 2 * b then 2 * a else if mr (ow c).2.1 = 2 * b + 1 then 2 * a + 1 else mr (ow c).2.1) / 2 = b := e
          rw [if_neg w, if_neg w2] at e'
          omega
end
