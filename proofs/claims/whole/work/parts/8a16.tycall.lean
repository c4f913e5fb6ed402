/-! TALKS GO ON (pure): new, go, same -/
/-- ARGS: the place of each CHANNEL that goes; what is left -/
def ARS (ps G G1 : Gm) (src : Nat → Nat) : Prop := (∀ j t, ps[j]? = some (2, t) → 1 ≤ src j ∧ G[src j]? = some (2, t)) ∧ (∀ j j' t t', ps[j]? = some (2, t) → ps[j']? = some (2, t') → src j = src j' → j = j') ∧ (∀ i s tt, s ≠ 0 → G1[i]? = some (s, tt) → G[i]? = some (s, tt) ∧ ∀ j t, ps[j]? = some (2, t) → src j ≠ i) ∧ G1.length = G.length ∧ G1[0]? = G[0]?
section
variable {k n : Nat} {L : lT} {B : iT} {Q : Nat → Prop}
theorem ars_of : ∀ (ps G : Gm) (x : Int32) (a : Nat) (G1 : Gm), argR k n L B Q ps G x a G1 → ∃ src, ARS ps G G1 src := by
  intro ps
  induction ps with
  | nil =>
    intro G x a G1 h
    obtain ⟨_, rfl⟩ := h
    exact ⟨fun _ => 0, fun j t h => (by cases h), fun j j' t t' h => (by cases h), fun i s tt _ h => ⟨h, fun j t h => (by cases h)⟩, rfl, rfl⟩
  | cons q ps ih =>
    intro G x a G1 h
    obtain ⟨b, _, _, _, _, ⟨h1, _, e, root, f, d, _, _, _, h2⟩ | ⟨h1, _, i, hi, hg, _, _, h2⟩⟩ := h
    · obtain ⟨src, s1, s2, s3, s4, s5⟩ := ih _ _ _ _ h2
      refine ⟨fun j => src (j - 1), fun j t h => ?_, fun j j' t t' h h' he => ?_, fun i s tt hs h => ?_, s4, s5⟩
      · cases j with
        | zero =>
          have := Option.some.inj h
          rw [this] at h1
          cases h1
        | succ j => exact s1 j t h
      · cases j with
        | zero =>
          have := Option.some.inj h
          rw [this] at h1
          cases h1
        | succ j =>
          cases j' with
          | zero =>
            have := Option.some.inj h'
            rw [this] at h1
            cases h1
          | succ j' => rw [s2 j j' t t' h h' he]
      · obtain ⟨w1, w2⟩ := s3 i s tt hs h
        refine ⟨w1, fun j t hj => ?_⟩
        cases j with
        | zero =>
          have := Option.some.inj hj
          rw [this] at h1
          cases h1
        | succ j => exact w2 j t hj
    · obtain ⟨src, s1, s2, s3, s4, s5⟩ := ih _ _ _ _ h2
      have hil : i < G.length := (List.getElem?_eq_some_iff.mp hg).1
      have gs : ∀ y s tt, s ≠ 0 → (G.set i (0, 0))[y]? = some (s, tt) → y ≠ i ∧ G[y]? = some (s, tt) := by
        intro y s tt hs h
        by_cases e : y = i
        · subst e
          rw [List.getElem?_set_self hil] at h
          have := (Prod.mk.inj (Option.some.inj h)).1
          exact absurd this.symm hs
        · rw [List.getElem?_set_ne (fun z => e z.symm)] at h
          exact ⟨e, h⟩
      refine ⟨fun j => Nat.rec i (fun y _ => src y) j, fun j t h => ?_, fun j j' t t' h h' he => ?_, fun y s tt hs h => ?_, by rw [s4, List.length_set], by rw [s5, List.getElem?_set_ne (by omega)]⟩
      · cases j with
        | zero =>
          have := Option.some.inj h
          rw [this] at hg
          exact ⟨hi, hg⟩
        | succ j =>
          obtain ⟨w1, w2⟩ := s1 j t h
          exact ⟨w1, (gs _ _ _ (by decide) w2).2⟩
      · cases j with
        | zero =>
          cases j' with
          | zero => rfl
          | succ j' =>
            have he' : i = src j' := he
            exact absurd he'.symm (gs _ _ _ (by decide) (s1 j' t' h').2).1
        | succ j =>
          cases j' with
          | zero =>
            have he' : src j = i := he
            exact absurd he' (gs _ _ _ (by decide) (s1 j t h).2).1
          | succ j' =>
            have he' : src j = src j' := he
            rw [s2 j j' t t' h h' he']
      · obtain ⟨w1, w2⟩ := s3 y s tt hs h
        obtain ⟨w3, w4⟩ := gs _ _ _ hs w1
        refine ⟨w4, fun j t hj => ?_⟩
        cases j with
        | zero => exact fun z => w3 z.symm
        | succ j => exact w2 j t hj
end
section
variable {k : Nat} {L : lT} {np nm : Nat} {al : Nat → Prop} {Γ : Nat → Gm} {ch : Nat → Nat → Nat} {rl : Nat → Nat} {ow : Nat → Nat × Nat × Nat} {Gt Ht : Nat → Nat} {q : Nat → List Nat} {mr rk : Nat → Nat} {kd va : Nat → Int32}
/-- the ends of all ARGS go to another PROCESS -/
theorem own_mv (H : TYI k L np nm al Γ ch rl ow Gt Ht q mr rk kd va) {p : Nat} (hp : p < np) (hal : al p) {ps G1 : Gm} {src : Nat → Nat} (hA : ARS ps (Γ p) G1 src) (p2 : Nat) : ∃ ow' : Nat → Nat × Nat × Nat, (∀ j t, ps[j]? = some (2, t) → ow' (ch p (src j)) = (1, p2, 1 + j)) ∧ (∀ x, (∀ j t, ps[j]? = some (2, t) → x ≠ ch p (src j)) → ow' x = ow x) := by
  obtain ⟨y1, y2, y3, y4, y5, y6, y7, y8⟩ := H
  obtain ⟨s1, s2, s3, s4, s5⟩ := hA
  let Pr : Nat → Nat → Prop := fun x j => ∃ t, ps[j]? = some (2, t) ∧ x = ch p (src j)
  haveI : ∀ x, Decidable (∃ j, Pr x j) := fun x => Classical.propDecidable _
  refine ⟨fun x => if h : ∃ j, Pr x j then (1, p2, 1 + Classical.choose h) else ow x, fun j t hj => ?_, fun x hx => ?_⟩
  · have h : ∃ j', Pr (ch p (src j)) j' := ⟨j, t, hj, rfl⟩
    show (if h : ∃ j', Pr (ch p (src j)) j' then (1, p2, 1 + Classical.choose h) else ow (ch p (src j))) = _
    rw [dif_pos h]
    obtain ⟨t', h1, h2⟩ := Classical.choose_spec h
    generalize Classical.choose h = j' at h1 h2
    obtain ⟨a1, a2⟩ := s1 j t hj
    obtain ⟨b1, b2⟩ := s1 j' t' h1
    have e1 := (y4 p hp hal _ _ a1 a2).2.2.1
    have e2 := (y4 p hp hal _ _ b1 b2).2.2.1
    rw [h2, e2] at e1
    have := s2 j' j t' t h1 hj (Prod.mk.inj (Prod.mk.inj e1).2).2
    rw [this]
  · show (if h : ∃ j', Pr x j' then (1, p2, 1 + Classical.choose h) else ow x) = _
    rw [dif_neg]
    intro ⟨j, t, h1, h2⟩
    exact hx j t h1 h2
/-- a T is the same while Ht is -/
theorem pth_same {Ht' : Nat → Nat} (H : TYI k L np nm al Γ ch rl ow Gt Ht q mr rk kd va) (hH : ∀ v, v < np → Ht' v = Ht v) {c : Nat} (hc : c < np) (hr : rl c = c) : (∀ t0 T l', (∀ x, x ∈ l' → x ∈ q (2 * c + 1)) → pth (TMu k L kd va Ht) t0 l' T → pth (TMu k L kd va Ht') t0 l' T) ∧ (∀ t0 T l', (∀ x, x ∈ l' → x ∈ q (2 * c)) → pth (TMd k L kd va Ht) t0 l' T → pth (TMd k L kd va Ht') t0 l' T) := by
  refine ⟨fun t0 T l' hl h => pth_to _ _ _ (fun a m b hm w => tm_to w rfl rfl (fun w1 v w2 w3 => hH v (ty_msg H hc hr (s := 1) (by omega) (hl m hm) w1 w2 w3).1)) h, fun t0 T l' hl h => pth_to _ _ _ (fun a m b hm w => tm_to w rfl rfl (fun w1 v w2 w3 => hH v (ty_msg H hc hr (s := 0) (by omega) (hl m hm) w1 w2 w3).1)) h⟩
theorem ty_go (H : TYI k L np nm al Γ ch rl ow Gt Ht q mr rk kd va) {p T : Nat} (hp : p < np) (hal : al p) {ps G1 : Gm} {src : Nat → Nat} (hA : ARS ps (Γ p) G1 src) (h0 : (Γ p)[0]? = some (2, T)) : ∃ ow', TYI k L np nm al (a_u1 Γ p ((2, T) :: ps)) (fun x i => if x = p then ch p (src (i - 1)) else ch x i) rl ow' Gt Ht q mr rk kd va := by
  obtain ⟨ow', o1, o2⟩ := own_mv H hp hal hA p
  have H0 := H
  obtain ⟨y1, y2, y3, y4, y5, y6, y7, y8⟩ := H
  obtain ⟨s1, s2, s3, s4, s5⟩ := hA
  have hmv : ∀ x, (ow x).1 ≠ 1 ∨ (ow x).2.1 ≠ p → ow' x = ow x := by
    intro x hx
    refine o2 x (fun j t hj e => ?_)
    obtain ⟨a1, a2⟩ := s1 j t hj
    have e1 := (y4 p hp hal _ _ a1 a2).2.2.1
    rw [← e] at e1
    rw [e1] at hx
    rcases hx with z | z
    · exact z rfl
    · exact z rfl
  have h1 : ∀ x, ow' x = ow x ∨ (∃ j t, ps[j]? = some (2, t) ∧ x = ch p (src j) ∧ ow' x = (1, p, 1 + j) ∧ ow x = (1, p, src j)) := by
    intro x
    by_cases e : ∃ j t, ps[j]? = some (2, t) ∧ x = ch p (src j)
    · obtain ⟨j, t, h1, h2⟩ := e
      obtain ⟨a1, a2⟩ := s1 j t h1
      exact Or.inr ⟨j, t, h1, h2, by rw [h2]; exact o1 j t h1, by rw [h2]; exact (y4 p hp hal _ _ a1 a2).2.2.1⟩
    · exact Or.inl (o2 x (fun j t hj w => e ⟨j, t, hj, w⟩))
  refine ⟨ow', y1, fun p' hp' ha => ?_, y3, fun p' hp' ha i' tt hi' hg => ?_, fun c hc hr => ?_, fun c hc hr s hs => ?_, fun c hc hr ho => ?_, y8⟩
  · by_cases e : p' = p
    · subst e
      rw [a_u1_s]
      obtain ⟨t0, w1, w2⟩ := y2 p' hp hal
      rw [h0] at w1
      exact ⟨T, rfl, by rw [pair2 w1]; exact w2⟩
    · rw [a_u1_n _ _ e]
      exact y2 p' hp' ha
  · by_cases e : p' = p
    · subst e
      rw [a_u1_s] at hg
      obtain ⟨j, rfl⟩ : ∃ j, i' = j + 1 := ⟨i' - 1, by omega⟩
      have hg' : ps[j]? = some (2, tt) := hg
      obtain ⟨a1, a2⟩ := s1 j tt hg'
      obtain ⟨x1, x2, x3, x4⟩ := y4 p' hp hal _ _ a1 a2
      show (if p' = p' then ch p' (src (j + 1 - 1)) else ch p' (j + 1)) < np ∧ rl (if p' = p' then ch p' (src (j + 1 - 1)) else ch p' (j + 1)) = (if p' = p' then ch p' (src (j + 1 - 1)) else ch p' (j + 1)) ∧ ow' (if p' = p' then ch p' (src (j + 1 - 1)) else ch p' (j + 1)) = (1, p', j + 1) ∧ Ht (if p' = p' then ch p' (src (j + 1 - 1)) else ch p' (j + 1)) = tt
      rw [if_pos rfl, Nat.add_sub_cancel]
      exact ⟨x1, x2, by rw [o1 j tt hg', Nat.add_comm], x4⟩
    · rw [a_u1_n _ _ e] at hg
      obtain ⟨x1, x2, x3, x4⟩ := y4 p' hp' ha i' tt hi' hg
      show (if p' = p then ch p (src (i' - 1)) else ch p' i') < np ∧ rl (if p' = p then ch p (src (i' - 1)) else ch p' i') = (if p' = p then ch p (src (i' - 1)) else ch p' i') ∧ ow' (if p' = p then ch p (src (i' - 1)) else ch p' i') = (1, p', i') ∧ Ht (if p' = p then ch p (src (i' - 1)) else ch p' i') = tt
      rw [if_neg e]
      exact ⟨x1, x2, by rw [hmv _ (by rw [x3]; exact Or.inr e)]; exact x3, x4⟩
  · obtain ⟨T0, u1, u2⟩ := y5 c hc hr
    refine ⟨T0, u1, fun ho => u2 ?_⟩
    rcases h1 c with z | ⟨j, t, _, _, _, z⟩
    · rw [← z]; exact ho
    · rw [z]; exact Nat.one_ne_zero
  · obtain ⟨w1, w2⟩ := y6 c hc hr s hs
    refine ⟨w1, fun m hm => ?_⟩
    obtain ⟨x1, x2, x3⟩ := w2 m hm
    refine ⟨x1, x2, fun h => ?_⟩
    obtain ⟨v, z1, z2, z3, z4⟩ := x3 h
    exact ⟨v, z1, z2, z3, by rw [hmv v (Or.inl (by rw [z4]; exact (show ¬ (2 : Nat) = 1 by decide)))]; exact z4⟩
  · rcases h1 c with z | ⟨j, t, _, _, z, z2⟩
    · rw [z] at ho ⊢
      exact y7 c hc hr ho
    · rw [z]
      have := y7 c hc hr (by rw [z2]; exact Nat.one_ne_zero)
      rw [z2] at this
      exact ⟨fun w => absurd rfl w, fun _ => hp, this.2.2⟩
theorem ty_new (H : TYI k L np nm al Γ ch rl ow Gt Ht q mr rk kd va) {p T n1 : Nat} (hp : p < np) (hal : al p) (h80 : np < 80) {ps G1 : Gm} {src : Nat → Nat} (hA : ARS ps (Γ p) G1 src) (hn : G1.length = n1) (hn1 : 1 ≤ n1) {al' : Nat → Prop} (hal' : ∀ x, x < np → al' x → al x) : ∃ ow' rk', TYI k L (np + 1) nm al' (a_u1 (a_u1 Γ np ((2, T) :: ps)) p (G1 ++ [(2, T)])) (fun x i => if x = np then ch p (src (i - 1)) else if x = p ∧ i = n1 then np else ch x i) (a_u1 rl np np) ow' (a_u1 Gt np T) (a_u1 Ht np T) (a_u1 (a_u1 q (2 * np) []) (2 * np + 1) []) mr rk' kd va := by
  obtain ⟨ow', o1, o2⟩ := own_mv H hp hal hA np
  have H0 := H
  obtain ⟨y1, y2, y3, y4, y5, y6, y7, y8⟩ := H
  obtain ⟨s1, s2, s3, s4, s5⟩ := hA
  have hmv : ∀ x, (ow x).1 ≠ 1 ∨ (ow x).2.1 ≠ p → ow' x = ow x := by
    intro x hx
    refine o2 x (fun j t hj e => ?_)
    obtain ⟨a1, a2⟩ := s1 j t hj
    have e1 := (y4 p hp hal _ _ a1 a2).2.2.1
    rw [← e] at e1
    rw [e1] at hx
    rcases hx with z | z
    · exact z rfl
    · exact z rfl
  have h1 : ∀ x, ow' x = ow x ∨ (∃ j t, ps[j]? = some (2, t) ∧ x = ch p (src j) ∧ ow' x = (1, np, 1 + j) ∧ ow x = (1, p, src j)) := by
    intro x
    by_cases e : ∃ j t, ps[j]? = some (2, t) ∧ x = ch p (src j)
    · obtain ⟨j, t, h1, h2⟩ := e
      obtain ⟨a1, a2⟩ := s1 j t h1
      exact Or.inr ⟨j, t, h1, h2, by rw [h2]; exact o1 j t h1, by rw [h2]; exact (y4 p hp hal _ _ a1 a2).2.2.1⟩
    · exact Or.inl (o2 x (fun j t hj w => e ⟨j, t, hj, w⟩))
  have hpn : p ≠ np := by omega
  have eRl : ∀ x, x < np → (a_u1 rl np np) x = rl x := fun x hx => a_u1_n _ _ (by omega)
  have eRr : ∀ x, x < np → (a_u1 rl np np) (rl x) = rl x := fun x hx => by rw [eRl _ (y1 x hx).1, (y1 x hx).2]
  have hHt : ∀ v, v < np → (a_u1 Ht np T) v = Ht v := fun v hv => a_u1_n _ _ (by omega)
  have hGt : ∀ v, v < np → (a_u1 Gt np T) v = Gt v := fun v hv => a_u1_n _ _ (by omega)
  have hq : ∀ c s, c < np → s < 2 → (a_u1 (a_u1 q (2 * np) []) (2 * np + 1) []) (2 * c + s) = q (2 * c + s) := fun c s h1 h2 => by rw [a_u1_n _ _ (by omega), a_u1_n _ _ (by omega)]
  have hG1 : G1[0]? = (Γ p)[0]? := s5
  have hrt : ∀ c, c < np + 1 → (a_u1 rl np np) c = c → c = np ∨ (c < np ∧ rl c = c) := by
    intro c hc hr
    rcases Nat.lt_or_ge c np with z | z
    · exact Or.inr ⟨z, by rw [eRl c z] at hr; exact hr⟩
    · exact Or.inl (by omega)
  refine ⟨a_u1 ow' np (1, p, n1), fun x => if x = np then 2 * rk (rl p) + 1 else 2 * rk x, fun x hx => ?_, fun p' hp' ha => ?_, fun p' p'' h1' h2' ha1 ha2 he => ?_, fun p' hp' ha i' tt hi' hg => ?_, fun c hc hr => ?_, fun c hc hr s hs => ?_, fun c hc hr ho => ?_, by omega⟩
  · rcases Nat.lt_or_ge x np with z | z
    · rw [eRl x z, eRr x z]
      have := (y1 x z).1
      exact ⟨by omega, rfl⟩
    · have : x = np := by omega
      subst this
      rw [a_u1_s, a_u1_s]
      exact ⟨Nat.lt_succ_self _, rfl⟩
  · by_cases e : p' = p
    · subst e
      obtain ⟨t0, w1, w2⟩ := y2 p' hp hal
      rw [a_u1_s, eRl p' hp, hGt _ (y1 p' hp).1]
      exact ⟨t0, by rw [List.getElem?_append_left (by omega), hG1]; exact w1, w2⟩
    · rw [a_u1_n _ _ e]
      rcases Nat.lt_or_ge p' np with z | z
      · obtain ⟨t0, w1, w2⟩ := y2 p' z (hal' p' z ha)
        rw [a_u1_n _ _ (by omega), eRl p' z, hGt _ (y1 p' z).1]
        exact ⟨t0, w1, w2⟩
      · have : p' = np := by omega
        subst this
        rw [a_u1_s, a_u1_s, a_u1_s]
        exact ⟨T, rfl, rfl⟩
  · rcases Nat.lt_or_ge p' np with z | z
    · rw [eRl p' z] at he
      rcases Nat.lt_or_ge p'' np with z2 | z2
      · rw [eRl p'' z2] at he
        exact y3 p' p'' z z2 (hal' _ z ha1) (hal' _ z2 ha2) he
      · have : p'' = np := by omega
        subst this
        rw [a_u1_s] at he
        have := (y1 p' z).1
        omega
    · have : p' = np := by omega
      subst this
      rcases Nat.lt_or_ge p'' p' with z2 | z2
      · rw [eRl p'' z2, a_u1_s] at he
        have := (y1 p'' z2).1
        omega
      · omega
  · have old : p' < np → p' ≠ p ∨ (i' ≠ n1 ∧ ∀ j t, ps[j]? = some (2, t) → src j ≠ i') → (Γ p')[i']? = some (2, tt) → (fun x i => if x = np then ch p (src (i - 1)) else if x = p ∧ i = n1 then np else ch x i) p' i' < np + 1 ∧ (a_u1 rl np np) ((fun x i => if x = np then ch p (src (i - 1)) else if x = p ∧ i = n1 then np else ch x i) p' i') = (fun x i => if x = np then ch p (src (i - 1)) else if x = p ∧ i = n1 then np else ch x i) p' i' ∧ (a_u1 ow' np (1, p, n1)) ((fun x i => if x = np then ch p (src (i - 1)) else if x = p ∧ i = n1 then np else ch x i) p' i') = (1, p', i') ∧ (a_u1 Ht np T) ((fun x i => if x = np then ch p (src (i - 1)) else if x = p ∧ i = n1 then np else ch x i) p' i') = tt := by
      intro hp1 hne hg1
      have hal1 : al p' := by
        by_cases e : p' = p
        · rw [e]; exact hal
        · exact hal' p' hp1 ha
      obtain ⟨x1, x2, x3, x4⟩ := y4 p' hp1 hal1 i' tt hi' hg1
      have e : (fun x i => if x = np then ch p (src (i - 1)) else if x = p ∧ i = n1 then np else ch x i) p' i' = ch p' i' := by
        show (if p' = np then ch p (src (i' - 1)) else if p' = p ∧ i' = n1 then np else ch p' i') = _
        rw [if_neg (by omega), if_neg (by omega)]
      rw [e]
      refine ⟨by omega, by rw [eRl _ x1]; exact x2, ?_, by rw [hHt _ x1]; exact x4⟩
      rw [a_u1_n _ _ (by omega), o2 _ (fun j t hj w => ?_)]
      · exact x3
      · obtain ⟨a1, a2⟩ := s1 j t hj
        have e1 := (y4 p hp hal _ _ a1 a2).2.2.1
        rw [← w, x3] at e1
        have w1 := (Prod.mk.inj (Prod.mk.inj e1).2).1
        have w2 := (Prod.mk.inj (Prod.mk.inj e1).2).2
        rcases hne with z | z
        · exact z w1
        · exact z.2 j t hj w2.symm
    by_cases e : p' = p
    · subst e
      rw [a_u1_s] at hg
      rcases Nat.lt_or_ge i' n1 with z | z
      · rw [List.getElem?_append_left (by omega)] at hg
        obtain ⟨w1, w2⟩ := s3 i' 2 tt (by decide) hg
        exact old hp (Or.inr ⟨by omega, w2⟩) w1
      · rw [List.getElem?_append_right (by omega)] at hg
        have hi0 : i' = n1 := by
          have := (List.getElem?_eq_some_iff.mp hg).1
          rw [List.length_singleton] at this
          omega
        subst hi0
        rw [hn, Nat.sub_self] at hg
        have ht : T = tt := pair2 hg
        have e : (fun x i => if x = np then ch p' (src (i - 1)) else if x = p' ∧ i = i' then np else ch x i) p' i' = np := by
          show (if p' = np then ch p' (src (i' - 1)) else if p' = p' ∧ i' = i' then np else ch p' i') = _
          rw [if_neg hpn, if_pos ⟨rfl, rfl⟩]
        rw [e]
        exact ⟨Nat.lt_succ_self _, a_u1_s _ _ _, a_u1_s _ _ _, by rw [a_u1_s]; exact ht⟩
    · rw [a_u1_n _ _ e] at hg
      rcases Nat.lt_or_ge p' np with z | z
      · rw [a_u1_n _ _ (by omega)] at hg
        exact old z (Or.inl e) hg
      · have : p' = np := by omega
        subst this
        rw [a_u1_s] at hg
        obtain ⟨j, rfl⟩ : ∃ j, i' = j + 1 := ⟨i' - 1, by omega⟩
        have hg' : ps[j]? = some (2, tt) := hg
        obtain ⟨a1, a2⟩ := s1 j tt hg'
        obtain ⟨x1, x2, x3, x4⟩ := y4 p hp hal _ _ a1 a2
        have e : (fun x i => if x = p' then ch p (src (i - 1)) else if x = p ∧ i = n1 then p' else ch x i) p' (j + 1) = ch p (src j) := by
          show (if p' = p' then ch p (src (j + 1 - 1)) else if p' = p ∧ j + 1 = n1 then p' else ch p' (j + 1)) = _
          rw [if_pos rfl, Nat.add_sub_cancel]
        rw [e]
        exact ⟨by omega, by rw [eRl _ x1]; exact x2, by rw [a_u1_n _ _ (by omega), o1 j tt hg', Nat.add_comm], by rw [hHt _ x1]; exact x4⟩
  · rcases hrt c hc hr with z | ⟨z, zr⟩
    · subst z
      have q1 : (a_u1 (a_u1 q (2 * c) []) (2 * c + 1) []) (2 * c + 1) = [] := a_u1_s _ _ _
      have q2 : (a_u1 (a_u1 q (2 * c) []) (2 * c + 1) []) (2 * c) = [] := by rw [a_u1_n _ _ (by omega), a_u1_s]
      have g1 : (a_u1 Gt c T) c = T := a_u1_s _ _ _
      have g2 : (a_u1 Ht c T) c = T := a_u1_s _ _ _
      rw [q1, q2, g1, g2]
      exact ⟨T, rfl, fun _ => rfl⟩
    · obtain ⟨T0, u1, u2⟩ := y5 c z zr
      obtain ⟨tU, tD⟩ := pth_same H0 hHt z zr
      have q1 := hq c 1 z (by omega)
      have q2 : (a_u1 (a_u1 q (2 * np) []) (2 * np + 1) []) (2 * c) = q (2 * c) := hq c 0 z (by omega)
      rw [q1, q2, hGt c z, hHt c z]
      refine ⟨T0, tU _ _ _ (fun _ h => h) u1, fun ho => tD _ _ _ (fun _ h => h) (u2 ?_)⟩
      rw [a_u1_n _ _ (by omega)] at ho
      rcases h1 c with w | ⟨j, t, _, _, _, w⟩
      · rw [← w]; exact ho
      · rw [w]; exact Nat.one_ne_zero
  · rcases hrt c hc hr with z | ⟨z, zr⟩
    · subst z
      have : (a_u1 (a_u1 q (2 * c) []) (2 * c + 1) []) (2 * c + s) = [] := by
        rcases Nat.lt_or_ge s 1 with w | w
        · rw [a_u1_n _ _ (by omega), show s = 0 by omega, Nat.add_zero, a_u1_s]
        · rw [show s = 1 by omega, a_u1_s]
      rw [this]
      exact ⟨List.nodup_nil, fun m hm => (by cases hm)⟩
    · rw [hq c s z hs]
      obtain ⟨w1, w2⟩ := y6 c z zr s hs
      refine ⟨w1, fun m hm => ?_⟩
      obtain ⟨x1, x2, x3⟩ := w2 m hm
      refine ⟨x1, x2, fun h => ?_⟩
      obtain ⟨v, z1, z2, z3, z4⟩ := x3 h
      exact ⟨v, z1, by omega, by rw [eRl v z2]; exact z3, by rw [a_u1_n _ _ (by omega), hmv v (Or.inl (by rw [z4]; exact (show ¬ (2 : Nat) = 1 by decide)))]; exact z4⟩
  · rcases hrt c hc hr with z | ⟨z, zr⟩
    · subst z
      rw [a_u1_s]
      have hr1 := y1 p hp
      show (_ → _) ∧ (_ → p < c + 1) ∧ (a_u1 rl c c) p < c + 1 ∧ (a_u1 rl c c) ((a_u1 rl c c) p) = (a_u1 rl c c) p ∧ (if (a_u1 rl c c) p = c then 2 * rk (rl p) + 1 else 2 * rk ((a_u1 rl c c) p)) < (if c = c then 2 * rk (rl p) + 1 else 2 * rk c)
      rw [eRl p hp, eRr p hp, if_neg (by omega), if_pos rfl]
      exact ⟨fun w => absurd rfl w, fun _ => by omega, by omega, rfl, by omega⟩
    · rw [a_u1_n _ _ (by omega)] at ho ⊢
      have hrkc : (if c = np then 2 * rk (rl p) + 1 else 2 * rk c) = 2 * rk c := if_neg (by omega)
      rcases h1 c with w | ⟨j, t, _, _, w, w2⟩
      · rw [w] at ho ⊢
        obtain ⟨x0, x00, x1, x2, x3⟩ := y7 c z zr ho
        have ep : paO (a_u1 rl np np) mr (ow c) = paO rl mr (ow c) := by
          unfold paO
          by_cases v : (ow c).1 = 1
          · rw [if_pos v, if_pos v, eRl _ (x00 v)]
          · rw [if_neg v, if_neg v]
        rw [ep]
        show _ ∧ _ ∧ _ ∧ _ ∧ (if paO rl mr (ow c) = np then 2 * rk (rl p) + 1 else 2 * rk (paO rl mr (ow c))) < (if c = np then 2 * rk (rl p) + 1 else 2 * rk c)
        rw [hrkc, if_neg (by omega)]
        exact ⟨x0, fun v => by have := x00 v; omega, by omega, by rw [eRl _ x1]; exact x2, by omega⟩
      · have := y7 c z zr (by rw [w2]; exact Nat.one_ne_zero)
        rw [w2] at this
        rw [w]
        show (_ → _) ∧ (_ → np < np + 1) ∧ (a_u1 rl np np) np < np + 1 ∧ (a_u1 rl np np) ((a_u1 rl np np) np) = (a_u1 rl np np) np ∧ (if (a_u1 rl np np) np = np then 2 * rk (rl p) + 1 else 2 * rk ((a_u1 rl np np) np)) < (if c = np then 2 * rk (rl p) + 1 else 2 * rk c)
        rw [a_u1_s, a_u1_s, if_pos rfl, hrkc]
        have h5 : rk (rl p) < rk c := this.2.2.2.2
        exact ⟨fun w => absurd rfl w, fun _ => Nat.lt_succ_self _, Nat.lt_succ_self _, rfl, by omega⟩
end
