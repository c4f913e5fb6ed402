/-! TALKS GO ON (pure): a MESSAGE is laid, taken; nothing but a number or a NAME in it -/
/-- what there is changes at place i alone -/
def GS (G G' : Gm) (i t' : Nat) : Prop := (∀ j tt, 1 ≤ j → G'[j]? = some (2, tt) → (j = i ∧ tt = t') ∨ (j ≠ i ∧ G[j]? = some (2, tt))) ∧ (i = 0 → G'[0]? = some (2, t')) ∧ (i ≠ 0 → G'[0]? = G[0]?)
theorem pair2 {a b : Nat} (h : some ((2, a) : Nat × Nat) = some (2, b)) : a = b := (Prod.mk.inj (Option.some.inj h)).2
section
variable {k : Nat} {L : lT} {np nm : Nat} {al : Nat → Prop} {Γ : Nat → Gm} {ch : Nat → Nat → Nat} {rl : Nat → Nat} {ow : Nat → Nat × Nat × Nat} {Gt Ht : Nat → Nat} {q : Nat → List Nat} {mr rk : Nat → Nat} {kd va : Nat → Int32}
/-- the CHANNEL at place i of a PROCESS -/
def chX (rl : Nat → Nat) (ch : Nat → Nat → Nat) (p i : Nat) : Nat := if i = 0 then rl p else ch p i
theorem ty_ch (H : TYI k L np nm al Γ ch rl ow Gt Ht q mr rk kd va) {p i t : Nat} (hp : p < np) (hal : al p) (hΓ : (Γ p)[i]? = some (2, t)) : chX rl ch p i < np ∧ rl (chX rl ch p i) = chX rl ch p i ∧ (i = 0 → Gt (chX rl ch p i) = t) ∧ (i ≠ 0 → ow (chX rl ch p i) = (1, p, i) ∧ Ht (chX rl ch p i) = t) := by
  obtain ⟨y1, y2, y3, y4, y5, y6, y7, y8⟩ := H
  unfold chX
  by_cases z : i = 0
  · subst z
    rw [if_pos rfl]
    obtain ⟨t0, h1, h2⟩ := y2 p hp hal
    rw [hΓ] at h1
    exact ⟨(y1 p hp).1, (y1 p hp).2, fun _ => h2.trans (pair2 h1).symm, fun w => absurd rfl w⟩
  · rw [if_neg z]
    obtain ⟨h1, h2, h3, h4⟩ := y4 p hp hal i t (by omega) hΓ
    exact ⟨h1, h2, fun w => absurd w z, fun _ => ⟨h3, h4⟩⟩
def rwX (rl : Nat → Nat) (ch : Nat → Nat → Nat) (p i : Nat) : Nat := if i = 0 then 2 * rl p else 2 * ch p i + 1
def rdX (rl : Nat → Nat) (ch : Nat → Nat → Nat) (p i : Nat) : Nat := if i = 0 then 2 * rl p + 1 else 2 * ch p i
theorem ty_put (H : TYI k L np nm al Γ ch rl ow Gt Ht q mr rk kd va) {p i t t' : Nat} (hp : p < np) (hal : al p) (hΓ : (Γ p)[i]? = some (2, t)) {kn vn : Int32} (hkn : kn ≠ 1) (h0 : i = 0 → isD (gI (L (k + 2)) t) ∧ TMd k L (a_u1 kd nm kn) (a_u1 va nm vn) Ht t nm t') (h1 : i ≠ 0 → isU (gI (L (k + 2)) t) ∧ TMu k L (a_u1 kd nm kn) (a_u1 va nm vn) Ht t nm t') {al' : Nat → Prop} (hal' : ∀ x, al' x → al x) {G' : Gm} (hG : GS (Γ p) G' i t') :
    TYI k L np (nm + 1) al' (a_u1 Γ p G') ch rl ow (if i = 0 then a_u1 Gt (rl p) t' else Gt) (if i = 0 then Ht else a_u1 Ht (ch p i) t') (a_u1 q (rwX rl ch p i) (q (rwX rl ch p i) ++ [nm])) (a_u1 mr nm (rwX rl ch p i)) rk (a_u1 kd nm kn) (a_u1 va nm vn) := by
  obtain ⟨c1, c2, c3, c4⟩ := ty_ch H hp hal hΓ
  obtain ⟨y1, y2, y3, y4, y5, y6, y7, y8⟩ := H
  obtain ⟨g1, g2, g3⟩ := hG
  have eR : rwX rl ch p i = 2 * chX rl ch p i + (if i = 0 then 0 else 1) := by
    unfold rwX chX
    by_cases z : i = 0
    · rw [if_pos z, if_pos z, if_pos z]; rfl
    · rw [if_neg z, if_neg z, if_neg z]
  -- a MESSAGE in a row of a CHANNEL keeps what it is
  have live : ∀ c s m, c < np → rl c = c → s < 2 → m ∈ q (2 * c + s) → a_u1 kd nm kn m = kd m ∧ a_u1 va nm vn m = va m ∧ a_u1 mr nm (rwX rl ch p i) m = mr m ∧ m < nm := by
    intro c s m h1 h2 h3 h4
    obtain ⟨_, h5⟩ := y6 c h1 h2 s h3
    have h6 := (h5 m h4).1
    exact ⟨a_u1_n _ _ (by omega), a_u1_n _ _ (by omega), a_u1_n _ _ (by omega), h6⟩
  have hHt : ∀ c s m v, c < np → rl c = c → s < 2 → m ∈ q (2 * c + s) → kd m = 1 → v < 80 → va m = nI v → (if i = 0 then Ht else a_u1 Ht (ch p i) t') v = Ht v := by
    intro c s m v h1 h2 h3 h4 h5 h6 h7
    by_cases z : i = 0
    · rw [if_pos z]
    · rw [if_neg z]
      obtain ⟨_, w⟩ := y6 c h1 h2 s h3
      obtain ⟨v', w1, w2, w3, w4⟩ := (w m h4).2.2 h5
      have e : v' = v := (nI_eq (by omega) (by omega)).mp (w1.symm.trans h7)
      subst e
      refine a_u1_n _ _ (fun e => ?_)
      have h8 := (c4 z).1
      unfold chX at h8
      rw [if_neg z, ← e, w4] at h8
      cases h8
  have nlt : ∀ m, m ∈ q (rwX rl ch p i) → m < nm := by
    intro m hm
    rw [eR] at hm
    by_cases z : i = 0
    · rw [if_pos z] at hm
      exact (live _ 0 m c1 c2 (by omega) hm).2.2.2
    · rw [if_neg z] at hm
      exact (live _ 1 m c1 c2 (by omega) hm).2.2.2
  refine ⟨y1, fun p' hp' ha => ?_, fun p' p'' h1 h2 h3 h4 h5 => y3 p' p'' h1 h2 (hal' _ h3) (hal' _ h4) h5, fun p' hp' ha i' tt hi' hg => ?_, fun c hc hr => ?_, fun c hc hr s hs => ?_, fun c hc hr ho => ?_, y8⟩
  · by_cases e : p' = p
    · subst e
      rw [a_u1_s]
      by_cases z : i = 0
      · exact ⟨t', g2 z, by rw [if_pos z, a_u1_s]⟩
      · obtain ⟨t0, w1, w2⟩ := y2 p' hp hal
        exact ⟨t0, (g3 z).trans w1, by rw [if_neg z]; exact w2⟩
    · rw [a_u1_n _ _ e]
      obtain ⟨t0, w1, w2⟩ := y2 p' hp' (hal' _ ha)
      refine ⟨t0, w1, ?_⟩
      by_cases z : i = 0
      · rw [if_pos z, a_u1_n _ _ (fun w => e (y3 p' p hp' hp (hal' _ ha) hal w))]
        exact w2
      · rw [if_neg z]
        exact w2
  · by_cases e : p' = p
    · subst e
      rw [a_u1_s] at hg
      rcases g1 i' tt hi' hg with ⟨w1, w2⟩ | ⟨w1, w2⟩
      · subst w1 w2
        have z : i' ≠ 0 := by omega
        have h8 := (c4 z).1
        unfold chX at h8 c1 c2
        rw [if_neg z] at h8 c1 c2
        exact ⟨c1, c2, h8, by rw [if_neg z, a_u1_s]⟩
      · obtain ⟨x1, x2, x3, x4⟩ := y4 p' hp hal i' tt hi' w2
        refine ⟨x1, x2, x3, ?_⟩
        by_cases z : i = 0
        · rw [if_pos z]; exact x4
        · have h8 := (c4 z).1
          unfold chX at h8
          rw [if_neg z] at h8
          rw [if_neg z, a_u1_n _ _ (fun w => by rw [w, h8] at x3; exact w1 (Prod.mk.inj (Prod.mk.inj x3).2).2.symm)]
          exact x4
    · rw [a_u1_n _ _ e] at hg
      obtain ⟨x1, x2, x3, x4⟩ := y4 p' hp' (hal' _ ha) i' tt hi' hg
      refine ⟨x1, x2, x3, ?_⟩
      by_cases z : i = 0
      · rw [if_pos z]; exact x4
      · have h8 := (c4 z).1
        unfold chX at h8
        rw [if_neg z] at h8
        rw [if_neg z, a_u1_n _ _ (fun w => by rw [w, h8] at x3; exact e (Prod.mk.inj (Prod.mk.inj x3).2).1.symm)]
        exact x4
  · have tU : ∀ t0 T, pth (TMu k L kd va Ht) t0 (q (2 * c + 1)) T → pth (TMu k L (a_u1 kd nm kn) (a_u1 va nm vn) (if i = 0 then Ht else a_u1 Ht (ch p i) t')) t0 (q (2 * c + 1)) T := fun t0 T h => pth_to _ _ _ (fun a m b hm w => tm_to w (live c 1 m hc hr (by omega) hm).1 (live c 1 m hc hr (by omega) hm).2.1 (fun w1 v w2 w3 => hHt c 1 m v hc hr (by omega) hm w1 w2 w3)) h
    have tD : ∀ t0 T, pth (TMd k L kd va Ht) t0 (q (2 * c)) T → pth (TMd k L (a_u1 kd nm kn) (a_u1 va nm vn) (if i = 0 then Ht else a_u1 Ht (ch p i) t')) t0 (q (2 * c)) T := fun t0 T h => pth_to _ _ _ (fun a m b hm w => tm_to w (live c 0 m hc hr (by omega) hm).1 (live c 0 m hc hr (by omega) hm).2.1 (fun w1 v w2 w3 => hHt c 0 m v hc hr (by omega) hm w1 w2 w3)) h
    obtain ⟨T, u1, u2⟩ := y5 c hc hr
    by_cases e : c = chX rl ch p i
    · subst e
      by_cases z : i = 0
      · obtain ⟨hK, hT⟩ := h0 z
        have eG := c3 z
        rw [eG] at u1
        obtain ⟨v1, v2⟩ := pth_u0 u1 hK
        subst v2
        have eC : chX rl ch p i = rl p := by unfold chX; rw [if_pos z]
        rw [eR, if_pos z, if_pos z, if_pos z]
        refine ⟨t', ?_, fun ho => ?_⟩
        · have eq1 : a_u1 q (2 * chX rl ch p i + 0) (q (2 * chX rl ch p i + 0) ++ [nm]) (2 * chX rl ch p i + 1) = [] := (a_u1_n _ _ (by omega)).trans v1
          have eq2 : a_u1 Gt (rl p) t' (chX rl ch p i) = t' := by rw [eC, a_u1_s]
          rw [eq1, eq2]
          rfl
        · have eq1 : a_u1 q (2 * chX rl ch p i + 0) (q (2 * chX rl ch p i + 0) ++ [nm]) (2 * chX rl ch p i) = q (2 * chX rl ch p i) ++ [nm] := a_u1_s _ _ _
          rw [eq1, pth_app]
          have := tD _ _ (u2 ho)
          rw [if_pos z] at this
          exact ⟨_, this, t', hT, rfl⟩
      · obtain ⟨hK, hT⟩ := h1 z
        obtain ⟨o1, o2⟩ := c4 z
        have hd := u2 (by rw [o1]; exact Nat.one_ne_zero)
        rw [o2] at hd
        obtain ⟨v1, v2⟩ := pth_d0 hd hK
        subst v2
        have eC : chX rl ch p i = ch p i := by unfold chX; rw [if_neg z]
        have hT' : TMu k L (a_u1 kd nm kn) (a_u1 va nm vn) (a_u1 Ht (ch p i) t') T nm t' := tm_to hT rfl rfl (fun w => by rw [a_u1_s] at w; exact absurd w hkn)
        rw [eR, if_neg z, if_neg z, if_neg z]
        refine ⟨t', ?_, fun ho => ?_⟩
        · have eq1 : a_u1 q (2 * chX rl ch p i + 1) (q (2 * chX rl ch p i + 1) ++ [nm]) (2 * chX rl ch p i + 1) = q (2 * chX rl ch p i + 1) ++ [nm] := a_u1_s _ _ _
          rw [eq1, pth_app]
          have := tU _ _ u1
          rw [if_neg z] at this
          exact ⟨_, this, t', hT', rfl⟩
        · have eq1 : a_u1 q (2 * chX rl ch p i + 1) (q (2 * chX rl ch p i + 1) ++ [nm]) (2 * chX rl ch p i) = [] := (a_u1_n _ _ (by omega)).trans v1
          have eq2 : a_u1 Ht (ch p i) t' (chX rl ch p i) = t' := by rw [eC, a_u1_s]
          rw [eq1, eq2]
          rfl
    · have e1 : 2 * c + 1 ≠ rwX rl ch p i := by rw [eR]; split <;> omega
      have e2 : 2 * c ≠ rwX rl ch p i := by rw [eR]; split <;> omega
      rw [a_u1_n _ _ e1, a_u1_n _ _ e2]
      refine ⟨T, ?_, fun ho => ?_⟩
      · have w : (if i = 0 then a_u1 Gt (rl p) t' else Gt) c = Gt c := by
          by_cases z : i = 0
          · rw [if_pos z]
            refine a_u1_n _ _ (fun w => e ?_)
            unfold chX; rw [if_pos z]; exact w
          · rw [if_neg z]
        rw [w]
        exact tU _ _ u1
      · have w : (if i = 0 then Ht else a_u1 Ht (ch p i) t') c = Ht c := by
          by_cases z : i = 0
          · rw [if_pos z]
          · rw [if_neg z]
            refine a_u1_n _ _ (fun w => e ?_)
            unfold chX; rw [if_neg z]; exact w
        rw [show (if i = 0 then Ht else a_u1 Ht (ch p i) t') c = Ht c from w]
        exact tD _ _ (u2 ho)
  · obtain ⟨w1, w2⟩ := y6 c hc hr s hs
    by_cases e : 2 * c + s = rwX rl ch p i
    · rw [e, a_u1_s]
      rw [e] at w1 w2
      refine ⟨nd_snoc _ _ w1 (fun z => by have := nlt nm z; omega), fun m hm => ?_⟩
      rcases List.mem_append.mp hm with z | z
      · obtain ⟨x1, x2, x3⟩ := w2 m z
        exact ⟨by omega, by rw [a_u1_n _ _ (by omega)]; exact x2, by rw [a_u1_n _ _ (by omega), a_u1_n _ _ (by omega)]; exact x3⟩
      · have : m = nm := by simpa using z
        subst this
        exact ⟨by omega, a_u1_s _ _ _, fun w => by rw [a_u1_s] at w; exact absurd w hkn⟩
    · rw [a_u1_n _ _ e]
      refine ⟨w1, fun m hm => ?_⟩
      obtain ⟨x1, x2, x3⟩ := w2 m hm
      exact ⟨by omega, by rw [a_u1_n _ _ (by omega)]; exact x2, by rw [a_u1_n _ _ (by omega), a_u1_n _ _ (by omega)]; exact x3⟩
  · obtain ⟨x0, x00, x1, x2, x3⟩ := y7 c hc hr ho
    have e : paO rl (a_u1 mr nm (rwX rl ch p i)) (ow c) = paO rl mr (ow c) := by
      unfold paO
      by_cases z : (ow c).1 = 1
      · rw [if_pos z, if_pos z]
      · rw [if_neg z, if_neg z, a_u1_n _ _ (by have := x0 z; omega)]
    rw [e]
    exact ⟨fun z => by have := x0 z; omega, x00, x1, x2, x3⟩
/-- the first MESSAGE of the row that a PROCESS reads -/
theorem ty_head (H : TYI k L np nm al Γ ch rl ow Gt Ht q mr rk kd va) {p i t m : Nat} {l : List Nat} (hp : p < np) (hal : al p) (hΓ : (Γ p)[i]? = some (2, t)) (hq : q (rdX rl ch p i) = m :: l) : ∃ t', (i = 0 → TMu k L kd va Ht t m t') ∧ (i ≠ 0 → TMd k L kd va Ht t m t') := by
  obtain ⟨c1, c2, c3, c4⟩ := ty_ch H hp hal hΓ
  obtain ⟨y1, y2, y3, y4, y5, y6, y7, y8⟩ := H
  obtain ⟨T, u1, u2⟩ := y5 _ c1 c2
  by_cases z : i = 0
  · have e : rdX rl ch p i = 2 * chX rl ch p i + 1 := by unfold rdX chX; rw [if_pos z, if_pos z]
    rw [e] at hq
    rw [hq, c3 z] at u1
    obtain ⟨t', h1, _⟩ := u1
    exact ⟨t', fun _ => h1, fun w => absurd z w⟩
  · have e : rdX rl ch p i = 2 * chX rl ch p i := by unfold rdX chX; rw [if_neg z, if_neg z]
    rw [e] at hq
    have := u2 (by rw [(c4 z).1]; exact Nat.one_ne_zero)
    rw [hq, (c4 z).2] at this
    obtain ⟨t', h1, _⟩ := this
    exact ⟨t', fun w => absurd w z, fun _ => h1⟩
end
